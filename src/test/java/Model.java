import java.util.ArrayList;
import java.util.List;
import java.util.NoSuchElementException;

/**
 * The document told a second time, slowly: every answer is worked from the texts and rows anew, with
 * nothing kept between calls. RandomTest holds MiddleUnseen against it.
 */
final class Model {
    private static final int NONE = -1;

    static final class Fault extends RuntimeException {
        final int kind;
        final int place;

        Fault(int kind, int place) {
            this.kind = kind;
            this.place = place;
        }
    }

    interface Value {
        int of(int[] names);
    }

    interface Condition {
        boolean of(int[] names);
    }

    record Way(int thing, int from, int x, int y, int to, int x2, int y2) { }

    record Throw(int from, int to, int tenth) { }

    record Turn(int thing, int tenth, int colour) { }

    record Clause(String kind, Value value, Condition condition) { }

    record Eyes(int looker, int tenth, int x, int y) { }

    record Blink(int looker, int from, int to) { }

    static final class Scene {
        final List<int[]> things = new ArrayList<>();
        final List<Way> ways = new ArrayList<>();
        final List<Throw> throwsList = new ArrayList<>();
        final List<Turn> turns = new ArrayList<>();
        int odd = NONE;

        int end() {
            return ways.stream().mapToInt(Way::to).max().orElse(0);
        }

        int turner() {
            return turns.isEmpty() ? NONE : turns.get(0).thing();
        }

        int[] place(int thing, int tenth) {
            for (int k = ways.size() - 1; k >= 0; k--) {
                Way w = ways.get(k);
                if (w.thing() == thing && w.from() <= tenth && tenth <= w.to()) {
                    int all = w.to() - w.from();
                    int since = tenth - w.from();
                    return new int[] {
                        w.x() + (all == 0 ? 0 : (w.x2() - w.x()) * since / all),
                        w.y() + (all == 0 ? 0 : (w.y2() - w.y()) * since / all) };
                }
            }
            return null;
        }

        int colour(int thing, int tenth) {
            Turn latest = null;
            for (Turn t : turns) {
                if (t.thing() == thing && t.tenth() <= tenth && (latest == null || t.tenth() >= latest.tenth())) {
                    latest = t;
                }
            }
            return latest == null ? things.get(thing)[0] : latest.colour();
        }

        int pace(int thing, int tenth) {
            int[] now = place(thing, tenth);
            int[] before = tenth == 0 ? null : place(thing, tenth - 1);
            return now == null || before == null ? 0
                    : Math.max(Math.abs(now[0] - before[0]), Math.abs(now[1] - before[1]));
        }

        boolean changes(int thing, int tenth) {
            return turns.stream().anyMatch(t -> t.thing() == thing && t.tenth() <= tenth && t.tenth() >= tenth - 9);
        }

        int throwsOf(Task task) {
            return (int) throwsList.stream()
                    .filter(t -> task.count != NONE && colour(t.from(), t.tenth()) == task.count).count();
        }
    }

    static final class Task {
        int keep = 0;
        int drop = 0;
        int count = NONE;
        int room = 4;
        int watch = 0;
    }

    static final class Looker implements Cloneable {
        int scene;
        int task;
        boolean knows;
        int[] answers = {NONE, NONE, NONE};
        int counted = NONE;
        int sure = NONE;

        Looker copy() {
            Looker l = new Looker();
            l.scene = scene;
            l.task = task;
            l.knows = knows;
            l.answers = answers.clone();
            l.counted = counted;
            l.sure = sure;
            return l;
        }
    }

    static final class Hall {
        final List<Looker> lookers = new ArrayList<>();
        final List<Eyes> eyes = new ArrayList<>();
        final List<Blink> blinks = new ArrayList<>();
        final int[] weights = {1, 1, 1, 1};
        int wrong = 4;

        Hall copy() {
            Hall h = new Hall();
            for (Looker l : lookers) {
                h.lookers.add(l.copy());
            }
            h.eyes.addAll(eyes);
            h.blinks.addAll(blinks);
            System.arraycopy(weights, 0, h.weights, 0, 4);
            h.wrong = wrong;
            return h;
        }
    }

    /** A text by characters, left to right. */
    static final class Reader {
        final int[] text;
        int at = 0;

        Reader(int[] text) {
            this.text = text;
        }

        int peek() {
            while (at < text.length && text[at] == 32) {
                at++;
            }
            return at < text.length ? text[at] : NONE;
        }

        String peekWord() {
            peek();
            StringBuilder b = new StringBuilder();
            for (int k = at; k < text.length && text[k] >= 97 && text[k] <= 122; k++) {
                b.append((char) text[k]);
            }
            return b.toString();
        }

        boolean word(String w) {
            if (peekWord().equals(w)) {
                at += w.length();
                return true;
            }
            return false;
        }

        boolean sign(char c) {
            if (peek() == c) {
                at++;
                return true;
            }
            return false;
        }

        void must(char c) {
            if (!sign(c)) {
                throw new Fault(1, at);
            }
        }

        boolean digit() {
            return peek() >= '0' && peek() <= '9';
        }

        int number(int least, int most, int not) {
            if (!digit()) {
                throw new Fault(1, at);
            }
            int start = at;
            java.math.BigInteger v = java.math.BigInteger.ZERO;
            while (at < text.length && text[at] >= '0' && text[at] <= '9') {
                v = v.multiply(java.math.BigInteger.TEN).add(java.math.BigInteger.valueOf(text[at++] - '0'));
            }
            if (v.compareTo(java.math.BigInteger.valueOf(least)) < 0
                    || v.compareTo(java.math.BigInteger.valueOf(most)) > 0 || v.intValue() == not) {
                throw new Fault(2, start);
            }
            return v.intValue();
        }
    }

    static final List<String> NAMES = List.of("like", "drop", "near", "size", "pace", "full", "odd", "watch",
            "change", "knows", "tenth");

    static final class LawText {
        final Reader r;
        int open = 0;

        LawText(Reader r) {
            this.r = r;
        }

        void open() {
            open++;
        }

        void opening(int at) {
            if (open == 6) {
                throw new Fault(3, at);
            }
            open++;
        }

        Value e() {
            Value v = t();
            while (r.peek() == '+' || r.peek() == '-') {
                boolean plus = r.peek() == '+';
                r.at++;
                Value a = v;
                Value b = t();
                v = plus ? n -> a.of(n) + b.of(n) : n -> a.of(n) - b.of(n);
            }
            return v;
        }

        Value t() {
            Value v = u();
            while (r.peek() == '*' || r.peek() == '/') {
                boolean times = r.peek() == '*';
                r.at++;
                Value a = v;
                Value b = u();
                v = times ? n -> a.of(n) * b.of(n) : n -> b.of(n) == 0 ? 0 : a.of(n) / b.of(n);
            }
            return v;
        }

        Value u() {
            if (r.digit()) {
                int v = r.number(0, 9999, NONE);
                return n -> v;
            }
            String w = r.peekWord();
            if (NAMES.contains(w)) {
                r.word(w);
                int k = NAMES.indexOf(w);
                return n -> n[k];
            }
            if (w.equals("least") || w.equals("most")) {
                r.word(w);
                bracket('(');
                Value a = e();
                r.must(',');
                Value b = e();
                r.must(')');
                open--;
                return w.equals("least") ? n -> Math.min(a.of(n), b.of(n)) : n -> Math.max(a.of(n), b.of(n));
            }
            bracket('(');
            Value v = e();
            r.must(')');
            open--;
            return v;
        }

        void bracket(char c) {
            r.must(c);
            opening(r.at - 1);
        }

        Condition c() {
            Condition v = a();
            while (r.word("or")) {
                Condition x = v;
                Condition y = a();
                v = n -> x.of(n) | y.of(n);
            }
            return v;
        }

        Condition a() {
            Condition v = b();
            while (r.word("and")) {
                Condition x = v;
                Condition y = b();
                v = n -> x.of(n) & y.of(n);
            }
            return v;
        }

        Condition b() {
            if (r.word("not")) {
                opening(r.at - 3);
                Condition x = b();
                open--;
                return n -> !x.of(n);
            }
            if (r.peek() == '[') {
                bracket('[');
                Condition x = c();
                r.must(']');
                open--;
                return x;
            }
            Value x = e();
            int rel = r.peek();
            if (rel != '<' && rel != '>' && rel != '=') {
                throw new Fault(1, r.at);
            }
            r.at++;
            Value y = e();
            return n -> rel == '<' ? x.of(n) < y.of(n) : rel == '>' ? x.of(n) > y.of(n) : x.of(n) == y.of(n);
        }
    }

    final List<Integer> tape = new ArrayList<>();
    final List<Scene> scenes = new ArrayList<>();
    final List<Task> tasks = new ArrayList<>();
    final List<List<Clause>> laws = new ArrayList<>();
    final List<Hall> images = new ArrayList<>();
    Hall hall = new Hall();
    int fault = NONE;

    int feed(int a, int b, int c, int d, int e) {
        if (tape.size() > 380) {
            return NONE;
        }
        for (int v : new int[] {a, b, c, d, e}) {
            for (byte x : java.nio.ByteBuffer.allocate(4).putInt(v).array()) {
                tape.add(x & 255);
            }
        }
        return tape.size();
    }

    private Reader take(int n, int most) {
        iae(n >= 0 && n <= tape.size() && n <= most);
        Reader r = new Reader(tape.subList(0, n).stream().mapToInt(v -> v).toArray());
        tape.clear();
        fault = NONE;
        return r;
    }

    private int faulty(Fault f) {
        fault = f.place;
        return f.kind - 10;
    }

    private String clauseWord(Reader r, int clauses, int most, String... words) {
        String w = r.peekWord();
        if (!List.of(words).contains(w)) {
            throw new Fault(1, r.at);
        }
        if (clauses == most) {
            throw new Fault(3, r.at);
        }
        return w;
    }

    int scene(int n) {
        Reader r = take(n, 400);
        if (scenes.size() == 6) {
            return NONE;
        }
        Scene s = new Scene();
        try {
            for (int k = 0; r.peek() != NONE; k++) {
                String w = clauseWord(r, k, 24, "thing", "way", "throw", "odd", "turn");
                if (w.equals("thing") && s.things.size() == 8) {
                    throw new Fault(3, r.at);
                }
                r.word(w);
                sceneClause(r, s, w);
                r.must(';');
            }
        } catch (Fault f) {
            return faulty(f);
        }
        scenes.add(s);
        return scenes.size() - 1;
    }

    private void sceneClause(Reader r, Scene s, String w) {
        int last = s.things.size() - 1;
        switch (w) {
            case "thing" -> s.things.add(new int[] {r.number(0, 7, NONE), r.number(1, 9, NONE)});
            case "way" -> {
                int t = r.number(0, last, NONE);
                int f = r.number(0, 299, NONE);
                int x = r.number(0, 39, NONE);
                int y = r.number(0, 29, NONE);
                s.ways.add(new Way(t, f, x, y, r.number(f, 299, NONE), r.number(0, 39, NONE), r.number(0, 29, NONE)));
            }
            case "throw" -> {
                int t = r.number(0, last, NONE);
                s.throwsList.add(new Throw(t, r.number(0, last, t), r.number(0, 299, NONE)));
            }
            case "odd" -> s.odd = r.number(0, last, NONE);
            default -> s.turns.add(new Turn(r.number(0, last, NONE), r.number(0, 299, NONE), r.number(0, 7, NONE)));
        }
    }

    int task(int n) {
        Reader r = take(n, 200);
        if (tasks.size() == 6) {
            return NONE;
        }
        Task t = new Task();
        try {
            for (int k = 0; r.peek() != NONE; k++) {
                String w = clauseWord(r, k, 16, "keep", "drop", "count", "room", "watch");
                r.word(w);
                switch (w) {
                    case "keep" -> t.keep |= 1 << r.number(0, 7, NONE);
                    case "drop" -> t.drop |= 1 << r.number(0, 7, NONE);
                    case "count" -> t.count = r.number(0, 7, NONE);
                    case "room" -> t.room = r.number(0, 9, NONE);
                    default -> t.watch = r.number(0, 9, NONE);
                }
                r.must(';');
            }
        } catch (Fault f) {
            return faulty(f);
        }
        tasks.add(t);
        return tasks.size() - 1;
    }

    int law(int n) {
        Reader r = take(n, 400);
        if (laws.size() == 4) {
            return NONE;
        }
        List<Clause> clauses = new ArrayList<>();
        try {
            for (int k = 0; r.peek() != NONE; k++) {
                String w = clauseWord(r, k, 16, "gets", "line", "keeps", "sure");
                r.word(w);
                Value v = new LawText(r).e();
                Condition c = r.word("if") ? new LawText(r).c() : x -> true;
                clauses.add(new Clause(w, v, c));
                r.must(';');
            }
        } catch (Fault f) {
            return faulty(f);
        }
        laws.add(clauses);
        return laws.size() - 1;
    }

    // ---- checks

    private static void iae(boolean fine) {
        if (!fine) {
            throw new IllegalArgumentException();
        }
    }

    private void hasScene(int s) {
        if (s < 0 || s >= scenes.size()) {
            throw new NoSuchElementException();
        }
    }

    private void hasTask(int t) {
        if (t < 0 || t >= tasks.size()) {
            throw new IndexOutOfBoundsException();
        }
    }

    private void hasLaw(int l) {
        if (l < 0 || l >= laws.size()) {
            throw new IndexOutOfBoundsException();
        }
    }

    private Looker look(int l) {
        iae(l >= 0 && l < hall.lookers.size());
        return hall.lookers.get(l);
    }

    private static void in(int v, int least, int most) {
        iae(v >= least && v <= most);
    }

    // ---- scenes, tasks, lookers

    int told(int s, int what) {
        hasScene(s);
        in(what, 0, 5);
        Scene x = scenes.get(s);
        return new int[] {x.things.size(), x.ways.size(), x.throwsList.size(), x.end(), x.odd, x.turner()}[what];
    }

    int thing(int s, int thing, int tenth, int what) {
        hasScene(s);
        Scene x = scenes.get(s);
        in(thing, 0, x.things.size() - 1);
        in(tenth, 0, 299);
        in(what, 0, 5);
        int[] p = x.place(thing, tenth);
        return new int[] {p == null ? NONE : p[0], p == null ? NONE : p[1], x.colour(thing, tenth),
            x.pace(thing, tenth), x.things.get(thing)[1], x.changes(thing, tenth) ? 1 : 0}[what];
    }

    int kept(int t, int what) {
        hasTask(t);
        in(what, 0, 4);
        Task x = tasks.get(t);
        return new int[] {x.keep, x.drop, x.count, x.room, x.watch}[what];
    }

    int throwsOf(int s, int t) {
        hasScene(s);
        hasTask(t);
        return scenes.get(s).throwsOf(tasks.get(t));
    }

    int looker(int s, int t, boolean knows) {
        hasScene(s);
        hasTask(t);
        if (hall.lookers.size() == 14) {
            return NONE;
        }
        Looker l = new Looker();
        l.scene = s;
        l.task = t;
        l.knows = knows;
        hall.lookers.add(l);
        return hall.lookers.size() - 1;
    }

    int eyes(int l, int tenth, int x, int y) {
        look(l);
        in(tenth, 0, 299);
        in(x, 0, 39);
        in(y, 0, 29);
        if (hall.eyes.size() == 60) {
            return NONE;
        }
        hall.eyes.add(new Eyes(l, tenth, x, y));
        return hall.eyes.size();
    }

    int blink(int l, int from, int to) {
        look(l);
        in(from, 0, 299);
        in(to, from, 299);
        if (hall.blinks.size() == 40) {
            return NONE;
        }
        hall.blinks.add(new Blink(l, from, to));
        return hall.blinks.size();
    }

    /** Whose view: l is the looker's number, or NONE for a new one. */
    private final class Who {
        final int l;
        final Scene s;
        final Task t;
        final boolean knows;
        int size = NONE;
        int nearer = 0;
        int slower = 1;

        Who(int l) {
            this.l = l;
            Looker x = look(l);
            s = scenes.get(x.scene);
            t = tasks.get(x.task);
            knows = x.knows;
        }

        Who(int scene, int task) {
            l = NONE;
            s = scenes.get(scene);
            t = tasks.get(task);
            knows = false;
        }

        int[] eye(int tenth) {
            for (Blink b : hall.blinks) {
                if (b.looker() == l && b.from() <= tenth && tenth <= b.to()) {
                    return null;
                }
            }
            Eyes latest = null;
            for (Eyes e : hall.eyes) {
                if (e.looker() == l && e.tenth() <= tenth && (latest == null || e.tenth() >= latest.tenth())) {
                    latest = e;
                }
            }
            if (latest != null) {
                return new int[] {latest.x(), latest.y()};
            }
            Throw had = null;
            for (Throw h : s.throwsList) {
                if (t.count != NONE && h.tenth() <= tenth && s.colour(h.from(), h.tenth()) == t.count
                        && (had == null || h.tenth() >= had.tenth())) {
                    had = h;
                }
            }
            int[] p = had == null ? null : s.place(had.to(), tenth);
            return p == null ? new int[] {20, 15} : p;
        }

        int near(int thing, int tenth) {
            int[] p = s.place(thing, tenth);
            int[] e = eye(tenth);
            return p == null || e == null ? 99
                    : Math.max(Math.max(0, Math.abs(p[0] - e[0]) - nearer), Math.abs(p[1] - e[1]));
        }

        int[] names(int thing, int tenth) {
            int colour = s.colour(thing, tenth);
            int full = 0;
            for (int k = 0; k < s.things.size(); k++) {
                if (s.place(k, tenth) != null && (t.keep & 1 << s.colour(k, tenth)) != 0) {
                    full++;
                }
            }
            return new int[] {(t.keep & 1 << colour) != 0 ? 1 : 0, (t.drop & 1 << colour) != 0 ? 1 : 0,
                near(thing, tenth), size == NONE ? s.things.get(thing)[1] : size, s.pace(thing, tenth) / slower,
                Math.max(0, full - t.room), thing == s.odd ? 1 : 0, t.watch, s.changes(thing, tenth) ? 1 : 0,
                knows ? 1 : 0, tenth};
        }

        int gets(int law, int thing, int tenth) {
            if (s.place(thing, tenth) == null || eye(tenth) == null) {
                return 0;
            }
            int[] n = names(thing, tenth);
            int sum = 0;
            for (Clause c : laws.get(law)) {
                if (c.kind().equals("gets") && c.condition().of(n)) {
                    sum += c.value().of(n);
                }
            }
            return Math.max(0, Math.min(1000, sum));
        }

        int last(int law, String kind, int thing, int tenth, int low, int high, int without) {
            int[] n = names(thing, tenth);
            int v = without;
            for (Clause c : laws.get(law)) {
                if (c.kind().equals(kind) && c.condition().of(n)) {
                    v = Math.max(low, Math.min(high, c.value().of(n)));
                }
            }
            return v;
        }

        int line(int law, int thing, int tenth) {
            return last(law, "line", thing, tenth, 1, 100000, 100);
        }

        int sum(int law, int thing, int tenth) {
            int sum = 0;
            for (int t = 0; t <= tenth; t++) {
                sum += gets(law, thing, t);
            }
            return sum;
        }

        int seen(int law, int thing) {
            return drawn(law, thing, 0, 0);
        }

        int drawn(int law, int thing, int noise, int seed) {
            if (thing == NONE) {
                return NONE;
            }
            int sum = 0;
            for (int t = 0; t <= s.end(); t++) {
                sum += gets(law, thing, t);
                if (s.place(thing, t) != null && eye(t) != null) {
                    seed = seed * 1103515245 + 12345;
                    sum += (seed >> 16 & 0x7fff) % (noise + 1);
                }
                if (sum >= line(law, thing, t)) {
                    return t;
                }
            }
            return NONE;
        }

        int change(int law) {
            int sum = 0;
            for (int t = 0; t <= s.end() && s.turner() != NONE; t++) {
                if (s.changes(s.turner(), t)) {
                    sum += gets(law, s.turner(), t);
                    if (sum >= line(law, s.turner(), t)) {
                        return t;
                    }
                }
            }
            return NONE;
        }

        boolean forgotten(int law) {
            return s.end() - seen(law, s.odd) > last(law, "keeps", s.odd, s.end(), 0, 999, 999);
        }

        boolean unsure(int law) {
            return sum(law, s.odd, s.end()) < last(law, "sure", s.odd, s.end(), 0, 100000, 0);
        }

        boolean says(int law, int asking) {
            if (s.odd == NONE || seen(law, s.odd) == NONE) {
                return false;
            }
            return (asking == 2 || !unsure(law)) && (asking > 0 || !forgotten(law));
        }

        int on(int near) {
            int n = 0;
            for (int t = 0; t <= s.end() && s.odd != NONE; t++) {
                if (s.place(s.odd, t) != null && eye(t) != null && near(s.odd, t) <= near) {
                    n++;
                }
            }
            return n;
        }
    }

    int eye(int l, int tenth) {
        look(l);
        in(tenth, 0, 299);
        int[] e = new Who(l).eye(tenth);
        return e == null ? NONE : 100 * e[0] + e[1];
    }

    int on(int l, int near) {
        look(l);
        in(near, 0, 40);
        return new Who(l).on(near);
    }

    private void hasThing(int l, int thing) {
        in(thing, 0, scenes.get(look(l).scene).things.size() - 1);
    }

    int name(int l, int thing, int tenth, int which) {
        hasThing(l, thing);
        in(tenth, 0, 299);
        in(which, 0, 10);
        return new Who(l).names(thing, tenth)[which];
    }

    int gets(int law, int l, int thing, int tenth, int what) {
        hasLaw(law);
        hasThing(l, thing);
        in(tenth, 0, 299);
        in(what, 0, 2);
        Who w = new Who(l);
        return what == 0 ? w.gets(law, thing, tenth) : what == 1 ? w.sum(law, thing, tenth) : w.line(law, thing, tenth);
    }

    int seen(int law, int l, int thing) {
        hasLaw(law);
        hasThing(l, thing);
        return new Who(l).seen(law, thing);
    }

    boolean says(int law, int l, int asking) {
        hasLaw(law);
        look(l);
        in(asking, 0, 2);
        return new Who(l).says(law, asking);
    }

    int miss(int law, int l, int far) {
        hasLaw(law);
        look(l);
        in(far, 1, 99);
        Who w = new Who(l);
        if (w.says(law, 0)) {
            return w.knows ? 7 : NONE;
        }
        if (w.s.odd == NONE) {
            return 0;
        }
        if (w.seen(law, w.s.odd) != NONE) {
            return w.forgotten(law) ? 3 : 4;
        }
        boolean dropped = false;
        boolean below = false;
        boolean on = false;
        for (int t = 0; t < 300; t++) {
            if (w.s.place(w.s.odd, t) != null) {
                dropped |= (w.t.drop & 1 << w.s.colour(w.s.odd, t)) != 0;
                below |= w.near(w.s.odd, t) < far;
                on |= w.near(w.s.odd, t) <= 2;
            }
        }
        return dropped ? 5 : !below ? 6 : !on ? 1 : 2;
    }

    int drawn(int law, int l, int noise, int seed) {
        hasLaw(law);
        look(l);
        in(noise, 0, 50);
        Who w = new Who(l);
        return w.drawn(law, w.s.odd, noise, seed);
    }

    int change(int law, int l) {
        hasLaw(law);
        look(l);
        return new Who(l).change(law);
    }

    int yet(int law) {
        hasLaw(law);
        int bits = 0;
        for (int k = 0; k < hall.lookers.size(); k++) {
            Who w = new Who(k);
            if (w.on(2) > 0 && w.seen(law, w.s.odd) == NONE) {
                bits += 1 << k;
            }
        }
        return bits;
    }

    int least(int law, int l, int what) {
        hasLaw(law);
        look(l);
        in(what, 0, 2);
        for (int k = what == 1 ? 0 : 1; k <= (what == 1 ? 20 : 9); k++) {
            Who w = new Who(l);
            w.size = what == 0 ? k : NONE;
            w.nearer = what == 1 ? k : 0;
            w.slower = what == 2 ? k : 1;
            if (w.seen(law, w.s.odd) != NONE) {
                return k;
            }
        }
        return NONE;
    }

    // ---- answers

    int answer(int l, int asking, boolean yes) {
        look(l);
        in(asking, 0, 2);
        int old = look(l).answers[asking];
        look(l).answers[asking] = yes ? 1 : 0;
        return old;
    }

    int counted(int l, int v) {
        look(l);
        in(v, 0, 999);
        int old = look(l).counted;
        look(l).counted = v;
        return old;
    }

    int sure(int l, int v) {
        look(l);
        in(v, 0, 100);
        int old = look(l).sure;
        look(l).sure = v;
        return old;
    }

    private List<Looker> group(int s, int t, int asking) {
        return hall.lookers.stream()
                .filter(l -> l.scene == s && l.task == t && !l.knows && l.answers[asking] != NONE).toList();
    }

    private int yes(List<Looker> group, int asking) {
        return (int) group.stream().filter(l -> l.answers[asking] == 1).count();
    }

    int share(int s, int t, int asking, int what) {
        hasScene(s);
        hasTask(t);
        in(asking, 0, 2);
        in(what, 0, 3);
        int asked = group(s, t, asking).size();
        int yes = yes(group(s, t, asking), asking);
        int r = 1 + (int) Math.sqrt(yes);
        return new int[] {asked, yes, Math.max(0, yes - r), Math.min(asked, yes + r)}[what];
    }

    int guessed(int s, int o, int t, int asking) {
        hasScene(s);
        hasScene(o);
        hasTask(t);
        in(asking, 0, 2);
        int asked = group(s, t, asking).size();
        int yes = yes(group(s, t, asking), asking);
        int m = group(o, t, asking).size();
        int g = yes(group(o, t, asking), asking);
        return asked * (m - g) == 0 ? NONE : Math.max(0, 1000 * (yes * m - g * asked) / (asked * (m - g)));
    }

    /** One by one: how many choices of n out of all, of whom the first so many said yes, have k yes or more. */
    private static long choices(int all, int yes, int n, int k) {
        if (n < 0 || n > all) {
            return 0;
        }
        if (all == 0) {
            return k <= 0 ? 1 : 0;
        }
        int left = Math.max(0, yes - 1);
        return choices(all - 1, left, n, k) + choices(all - 1, left, n - 1, yes > 0 ? k - 1 : k);
    }

    int apart(int s, int t, int o, int ot, int asking, int what) {
        hasScene(s);
        hasScene(o);
        hasTask(t);
        hasTask(ot);
        in(asking, 0, 2);
        in(what, 0, 2);
        int n = group(s, t, asking).size();
        int y = yes(group(s, t, asking), asking);
        int n2 = group(o, ot, asking).size();
        int y2 = yes(group(o, ot, asking), asking);
        return what == 0 ? y * n2 - y2 * n : (int) choices(n + n2, y + y2, n, what == 1 ? y : 0);
    }

    int gone(int s, int t, int what) {
        hasScene(s);
        hasTask(t);
        in(what, 0, 2);
        int n = 0;
        for (Looker l : group(s, t, 0)) {
            boolean all = l.answers[1] != NONE && l.answers[2] != NONE;
            boolean gone = l.answers[0] == 0 && l.answers[2] == 1;
            boolean never = l.answers[0] == 0 && l.answers[1] == 0 && l.answers[2] == 0;
            n += all && (what == 2 || what == 0 && gone || what == 1 && never) ? 1 : 0;
        }
        return n;
    }

    private int lostOf(Looker l) {
        Task t = tasks.get(l.task);
        return l.counted == NONE || t.count == NONE ? NONE
                : Math.abs(scenes.get(l.scene).throwsOf(t) - l.counted);
    }

    int lost(int l) {
        return lostOf(look(l));
    }

    int cost(int s, int t, int o) {
        hasScene(s);
        hasTask(t);
        hasTask(o);
        int[] lost = new int[2];
        int[] told = new int[2];
        for (Looker l : hall.lookers) {
            for (int k = 0; k < 2; k++) {
                if (l.scene == s && l.task == (k == 0 ? t : o) && l.counted != NONE) {
                    lost[k] += lostOf(l);
                    told[k]++;
                }
            }
        }
        return tasks.get(t).count == NONE || tasks.get(o).count == NONE ? 0 : lost[0] * told[1] - lost[1] * told[0];
    }

    int off(int s, int t, int what) {
        hasScene(s);
        hasTask(t);
        in(what, 0, 1);
        List<Looker> both = group(s, t, 0).stream().filter(l -> l.sure != NONE).toList();
        return what == 0 ? both.stream().mapToInt(l -> l.sure).sum() - 100 * yes(both, 0)
                : (int) both.stream().filter(l -> l.sure >= 50 && l.answers[0] == 0).count();
    }

    // ---- odds

    int weigh(int law, int v) {
        hasLaw(law);
        in(v, 1, 9);
        int old = hall.weights[law];
        hall.weights[law] = v;
        return old;
    }

    int wrong(int v) {
        in(v, 1, 8);
        int old = hall.wrong;
        hall.wrong = v;
        return old;
    }

    private int[] agreeAndPart(int law) {
        int[] n = new int[2];
        for (int k = 0; k < hall.lookers.size(); k++) {
            Looker l = look(k);
            if (scenes.get(l.scene).odd != NONE && !l.knows && l.answers[0] != NONE) {
                n[new Who(k).says(law, 0) == (l.answers[0] == 1) ? 0 : 1]++;
            }
        }
        return n;
    }

    long odds(int law) {
        hasLaw(law);
        int[] n = agreeAndPart(law);
        long odds = hall.weights[law];
        for (int k = 0; k < n[0]; k++) {
            odds *= 16 - hall.wrong;
        }
        for (int k = 0; k < n[1]; k++) {
            odds *= hall.wrong;
        }
        return odds;
    }

    int best() {
        int best = NONE;
        for (int k = laws.size() - 1; k >= 0; k--) {
            if (best == NONE || odds(k) >= odds(best)) {
                best = k;
            }
        }
        return best;
    }

    int fits(int by) {
        in(by, 0, 14);
        int bits = 0;
        for (int k = 0; k < laws.size(); k++) {
            bits += agreeAndPart(k)[1] <= by ? 1 << k : 0;
        }
        return bits;
    }

    int next() {
        int best = NONE;
        long most = NONE;
        for (int s = 0; s < scenes.size(); s++) {
            for (int t = 0; t < tasks.size(); t++) {
                if (scenes.get(s).odd == NONE || laws.isEmpty()) {
                    continue;
                }
                long[] sides = new long[2];
                for (int k = 0; k < laws.size(); k++) {
                    sides[new Who(s, t).says(k, 0) ? 1 : 0] += odds(k);
                }
                if (Math.min(sides[0], sides[1]) > most) {
                    most = Math.min(sides[0], sides[1]);
                    best = 10 * s + t;
                }
            }
        }
        return best;
    }

    int knowing(int law, int what) {
        hasLaw(law);
        in(what, 0, 2);
        int[] n = new int[3];
        for (int k = 0; k < hall.lookers.size(); k++) {
            if (look(k).knows) {
                n[0]++;
                if (new Who(k).says(law, 0)) {
                    n[1]++;
                    n[2] += new Who(k).change(law) == NONE ? 1 : 0;
                }
            }
        }
        return n[what];
    }

    int crossing(int s, int t, int asking, int by) {
        hasScene(s);
        hasTask(t);
        in(asking, 0, 2);
        int bits = fits(by);
        int fit = Integer.bitCount(bits);
        int yes = 0;
        for (int k = 0; k < laws.size(); k++) {
            yes += (bits & 1 << k) != 0 && new Who(s, t).says(k, asking) ? 1 : 0;
        }
        return fit == 0 ? 0 : yes == 0 ? 1 : yes == fit ? 2 : 3;
    }

    int image() {
        if (images.size() == 3) {
            return NONE;
        }
        images.add(hall.copy());
        return images.size();
    }

    int restore() {
        if (images.isEmpty()) {
            return NONE;
        }
        hall = images.remove(images.size() - 1);
        return images.size();
    }

    int count(int what) {
        return what < 0 || what > 8 ? NONE : new int[] {scenes.size(), tasks.size(), laws.size(),
            hall.lookers.size(), hall.eyes.size(), hall.blinks.size(), images.size(), tape.size(), hall.wrong}[what];
    }
}
