import java.math.BigInteger;
import java.util.ArrayDeque;
import java.util.ArrayList;
import java.util.Arrays;
import java.util.Deque;
import java.util.HashSet;
import java.util.List;
import java.util.NoSuchElementException;
import java.util.Set;

/** The document once more, as plain and slow as can be, to be compared with the class call by call. */
final class Model {
    static final int NONE = -1;
    static final List<String> RESERVED = Arrays.asList("word", "place", "person", "at", "shy", "says", "likes", "kept",
            "counts", "parts", "say", "hush", "walk", "part", "keep", "moment", "plain", "deaf", "stammer", "echo",
            "not", "and", "or");
    static final List<String> KINDS = Arrays.asList("plain", "deaf", "stammer", "echo");
    static final List<String> FACTS = Arrays.asList("liking", "back", "wives");

    static final class Fault extends RuntimeException {
        final int code;

        Fault(int kind, int place) {
            code = kind + 16 * place;
        }
    }

    interface Law {
        int of(int liking, int back, int wives);
    }

    static final class Person {
        String name;
        int kind;
        int home;
        int shy;
        int[] odds = new int[5];
        int[] likes = new int[6];
        boolean[] told = new boolean[6];

        int sum() {
            return Arrays.stream(odds).sum();
        }
    }

    static final class Land {
        List<String> sayings = new ArrayList<>();
        List<String> places = new ArrayList<>();
        List<Person> people = new ArrayList<>();
        Set<Integer> kept = new HashSet<>();
        Law counts;
        Law parts;

        int personNamed(String name) {
            for (int i = 0; i < people.size(); i++) {
                if (people.get(i).name.equals(name)) {
                    return i;
                }
            }
            return NONE;
        }

        boolean knows(String name) {
            return sayings.contains(name) || places.contains(name) || personNamed(name) != NONE;
        }
    }

    static final class State {
        int moment;
        int[] at = new int[6];
        int[] say = new int[6];
        int[] said = new int[6];
        int[] uttered = new int[4];
        Set<Integer> wed = new HashSet<>();
        Set<Integer> kept = new HashSet<>();
        int paid;

        State copy() {
            State s = new State();
            s.moment = moment;
            s.at = at.clone();
            s.say = say.clone();
            s.said = said.clone();
            s.uttered = uttered.clone();
            s.wed = new HashSet<>(wed);
            s.kept = new HashSet<>(kept);
            s.paid = paid;
            return s;
        }
    }

    static final class Line {
        String verb;
        int a;
        int b;
    }

    static final class Tok {
        String text;
        int place;
        char sort;
    }

    private final StringBuilder tape = new StringBuilder();
    private Land land = new Land();
    private List<Line> day = new ArrayList<>();
    private State now = fresh();
    private List<Integer> heard = new ArrayList<>();
    private final Deque<State> past = new ArrayDeque<>();
    private final State[] marks = new State[4];
    private final List<List<Integer>> markHeard = new ArrayList<>(Arrays.asList(null, null, null, null));

    private List<Tok> toks;
    private int at;

    // ---- pairs

    static int pair(int a, int b) {
        int number = 0;
        for (int i = 0; i < 6; i++) {
            for (int j = i + 1; j < 6; j++) {
                if (i == Math.min(a, b) && j == Math.max(a, b)) {
                    return number;
                }
                number++;
            }
        }
        throw new IllegalStateException();
    }

    static int bits(Set<Integer> set) {
        int bits = 0;
        for (int i : set) {
            bits |= 1 << i;
        }
        return bits;
    }

    // ---- reading

    private State fresh() {
        State s = new State();
        Arrays.fill(s.say, NONE);
        Arrays.fill(s.said, NONE);
        Arrays.fill(s.uttered, NONE);
        for (int i = 0; i < land.people.size(); i++) {
            s.at[i] = land.people.get(i).home;
        }
        s.kept.addAll(land.kept);
        return s;
    }

    int feed(long a, long b, long c) {
        for (long v : new long[] {a, b, c}) {
            for (int i = 7; i >= 0; i--) {
                int sign = (int) (v >> 8 * i & 0xff);
                if ((sign == 10 || sign >= 32 && sign <= 126) && tape.length() < 1000) {
                    tape.append((char) sign);
                }
            }
        }
        return tape.length();
    }

    private void cut(String s) {
        toks = new ArrayList<>();
        at = 0;
        int i = 0;
        while (i < s.length()) {
            char c = s.charAt(i);
            if (c == ' ' || c == '\n') {
                i++;
                continue;
            }
            int j = i + 1;
            Tok t = new Tok();
            t.place = i;
            if (c >= 'a' && c <= 'z') {
                while (j < s.length() && s.charAt(j) >= 'a' && s.charAt(j) <= 'z') {
                    j++;
                }
                t.sort = j - i > 8 ? '?' : 'w';
            } else if (c >= '0' && c <= '9') {
                while (j < s.length() && s.charAt(j) >= '0' && s.charAt(j) <= '9') {
                    j++;
                }
                t.sort = j - i > 4 ? '?' : 'n';
            } else {
                t.sort = "()<=+-*;".indexOf(c) >= 0 ? 's' : '?';
            }
            t.text = s.substring(i, j);
            toks.add(t);
            i = j;
        }
        Tok end = new Tok();
        end.place = s.length();
        end.sort = 'e';
        end.text = "";
        toks.add(end);
    }

    private Tok tok() {
        return toks.get(at);
    }

    private Fault wrong(int kind) {
        return new Fault(kind, tok().place);
    }

    private boolean is(String text) {
        return (tok().sort == 'w' || tok().sort == 's') && tok().text.equals(text);
    }

    private void must(String text) {
        if (!is(text)) {
            throw wrong(1);
        }
        at++;
    }

    private String name() {
        if (tok().sort != 'w' || RESERVED.contains(tok().text)) {
            throw wrong(1);
        }
        return tok().text;
    }

    private int number(int least) {
        if (tok().sort != 'n') {
            throw wrong(1);
        }
        int n = Integer.parseInt(tok().text);
        if (n < least || n > 9) {
            throw wrong(4);
        }
        at++;
        return n;
    }

    private int known(int found) {
        if (found < 0) {
            throw wrong(2);
        }
        return found;
    }

    private String newName(Land l) {
        String n = name();
        if (l.knows(n)) {
            throw wrong(3);
        }
        at++;
        return n;
    }

    int province() {
        cut(tape.toString());
        tape.setLength(0);
        Land l = new Land();
        try {
            while (tok().sort != 'e') {
                provinceLine(l);
            }
        } catch (Fault f) {
            return f.code;
        }
        land = l;
        day = new ArrayList<>();
        now = fresh();
        heard = new ArrayList<>();
        past.clear();
        Arrays.fill(marks, null);
        return 0;
    }

    private void provinceLine(Land l) {
        if (is("word")) {
            if (l.sayings.size() == 5) {
                throw wrong(5);
            }
            at++;
            l.sayings.add(newName(l));
        } else if (is("place")) {
            if (l.places.size() == 4) {
                throw wrong(5);
            }
            at++;
            l.places.add(newName(l));
        } else if (is("person")) {
            if (l.people.size() == 6) {
                throw wrong(5);
            }
            at++;
            Person p = new Person();
            p.name = newName(l);
            if (tok().sort != 'w' || !KINDS.contains(tok().text)) {
                throw wrong(1);
            }
            p.kind = KINDS.indexOf(tok().text);
            at++;
            must("at");
            p.home = known(l.places.indexOf(name()));
            at++;
            must("shy");
            p.shy = number(0);
            l.people.add(p);
        } else if (is("says")) {
            at++;
            Person p = l.people.get(known(l.personNamed(name())));
            at++;
            int w = known(l.sayings.indexOf(name()));
            if (p.odds[w] != 0) {
                throw wrong(3);
            }
            at++;
            p.odds[w] = number(1);
        } else if (is("likes")) {
            at++;
            int a = known(l.personNamed(name()));
            at++;
            int b = known(l.personNamed(name()));
            if (a == b || l.people.get(a).told[b]) {
                throw wrong(3);
            }
            at++;
            l.people.get(a).told[b] = true;
            l.people.get(a).likes[b] = number(0);
        } else if (is("kept")) {
            at++;
            int a = known(l.personNamed(name()));
            at++;
            int b = known(l.personNamed(name()));
            if (a == b || l.kept.contains(pair(a, b))) {
                throw wrong(3);
            }
            at++;
            l.kept.add(pair(a, b));
        } else if (is("counts")) {
            if (l.counts != null) {
                throw wrong(3);
            }
            at++;
            l.counts = law(0);
        } else if (is("parts")) {
            if (l.parts != null) {
                throw wrong(3);
            }
            at++;
            l.parts = law(0);
        } else {
            throw wrong(1);
        }
        must(";");
    }

    private Law law(int deep) {
        Law left = test(deep);
        while (is("and") || is("or")) {
            boolean and = is("and");
            at++;
            Law l = left;
            Law r = test(deep);
            left = and ? (x, y, z) -> l.of(x, y, z) != 0 && r.of(x, y, z) != 0 ? 1 : 0
                    : (x, y, z) -> l.of(x, y, z) != 0 || r.of(x, y, z) != 0 ? 1 : 0;
        }
        return left;
    }

    private Law test(int deep) {
        Law l = sum(deep);
        if (is("<")) {
            at++;
            Law r = sum(deep);
            return (x, y, z) -> l.of(x, y, z) < r.of(x, y, z) ? 1 : 0;
        }
        if (is("=")) {
            at++;
            Law r = sum(deep);
            return (x, y, z) -> l.of(x, y, z) == r.of(x, y, z) ? 1 : 0;
        }
        return l;
    }

    private Law sum(int deep) {
        Law left = product(deep);
        while (is("+") || is("-")) {
            boolean plus = is("+");
            at++;
            Law l = left;
            Law r = product(deep);
            left = plus ? (x, y, z) -> l.of(x, y, z) + r.of(x, y, z) : (x, y, z) -> l.of(x, y, z) - r.of(x, y, z);
        }
        return left;
    }

    private Law product(int deep) {
        Law left = piece(deep);
        while (is("*")) {
            at++;
            Law l = left;
            Law r = piece(deep);
            left = (x, y, z) -> l.of(x, y, z) * r.of(x, y, z);
        }
        return left;
    }

    private Law piece(int deep) {
        boolean number = tok().sort == 'n';
        boolean fact = tok().sort == 'w' && FACTS.contains(tok().text);
        if (!number && !fact && !is("not") && !is("(")) {
            throw wrong(1);
        }
        if (deep >= 5) {
            throw wrong(5);
        }
        String text = tok().text;
        at++;
        if (number) {
            int n = Integer.parseInt(text);
            return (x, y, z) -> n;
        }
        if (fact) {
            return (x, y, z) -> text.equals("liking") ? x : text.equals("back") ? y : z;
        }
        if (text.equals("not")) {
            Law l = piece(deep + 1);
            return (x, y, z) -> l.of(x, y, z) == 0 ? 1 : 0;
        }
        Law l = law(deep + 1);
        must(")");
        return l;
    }

    int day() {
        cut(tape.toString());
        tape.setLength(0);
        List<Line> lines = new ArrayList<>();
        try {
            while (tok().sort != 'e') {
                dayLine(lines);
            }
        } catch (Fault f) {
            return f.code;
        }
        day = lines;
        return 0;
    }

    private void dayLine(List<Line> lines) {
        List<String> verbs = Arrays.asList("say", "hush", "walk", "part", "keep", "moment");
        if (tok().sort != 'w' || !verbs.contains(tok().text)) {
            throw wrong(1);
        }
        if (lines.size() == 30) {
            throw wrong(5);
        }
        Line line = new Line();
        line.verb = tok().text;
        at++;
        if (!line.verb.equals("moment")) {
            line.a = known(land.personNamed(name()));
            at++;
        }
        if (line.verb.equals("say")) {
            line.b = known(land.sayings.indexOf(name()));
            at++;
        } else if (line.verb.equals("walk")) {
            line.b = known(land.places.indexOf(name()));
            at++;
        } else if (line.verb.equals("part") || line.verb.equals("keep")) {
            line.b = known(land.personNamed(name()));
            if (line.a == line.b) {
                throw wrong(3);
            }
            at++;
        }
        must(";");
        lines.add(line);
    }

    // ---- by hand

    private boolean isPerson(int p) {
        return p >= 0 && p < land.people.size();
    }

    private boolean isSaying(int s) {
        return s >= 0 && s < land.sayings.size();
    }

    private boolean isPlace(int s) {
        return s >= 0 && s < land.places.size();
    }

    private boolean isTwo(int a, int b) {
        return isPerson(a) && isPerson(b) && a != b;
    }

    private Person who(int p) {
        return land.people.get(p);
    }

    private int wives(State s, int p) {
        return Integer.bitCount(wedTo(s, p));
    }

    private int wedTo(State s, int p) {
        int bits = 0;
        for (int q = 0; q < land.people.size(); q++) {
            if (q != p && s.wed.contains(pair(p, q))) {
                bits |= 1 << q;
            }
        }
        return bits;
    }

    private int counted(State s, int a, int b) {
        return land.counts == null ? 1
                : land.counts.of(who(a).likes[b], who(b).likes[a], wives(s, a) + wives(s, b));
    }

    private int cost(State s, int x, int y) {
        int a = Math.min(x, y);
        int b = Math.max(x, y);
        int e = land.parts == null ? 1 + who(a).likes[b] + who(b).likes[a]
                : land.parts.of(who(a).likes[b], who(b).likes[a], wives(s, a) + wives(s, b));
        return e < 0 ? 0 : e > 999 ? 999 : e;
    }

    private int utters(State s, int p) {
        switch (who(p).kind) {
            case 2:
                return s.said[p];
            case 3:
                return s.say[p] != NONE ? s.say[p] : s.uttered[s.at[p]];
            default:
                return s.say[p];
        }
    }

    private boolean couldSnap(State s, int a, int b) {
        return s.at[a] == s.at[b] && who(a).kind != 1 && who(b).kind != 1 && !s.kept.contains(pair(a, b))
                && !s.wed.contains(pair(a, b));
    }

    private int pass(State s) {
        int n = land.people.size();
        int[] u = new int[n];
        for (int p = 0; p < n; p++) {
            u[p] = utters(s, p);
        }
        Set<Integer> fresh = new HashSet<>();
        for (int a = 0; a < n; a++) {
            for (int b = a + 1; b < n; b++) {
                if (u[a] != NONE && u[a] == u[b] && couldSnap(s, a, b) && counted(s, a, b) != 0) {
                    s.wed.add(pair(a, b));
                    fresh.add(pair(a, b));
                }
            }
        }
        for (int place = 0; place < 4; place++) {
            s.uttered[place] = NONE;
            for (int p = 0; p < n; p++) {
                if (s.at[p] == place && u[p] != NONE) {
                    s.uttered[place] = u[p];
                    break;
                }
            }
        }
        s.said = s.say.clone();
        Arrays.fill(s.say, NONE);
        s.moment++;
        return bits(fresh);
    }

    private void remember() {
        past.push(now.copy());
        if (past.size() > 16) {
            past.removeLast();
        }
    }

    private int bigamistsOf(State s) {
        int bits = 0;
        for (int p = 0; p < land.people.size(); p++) {
            if (wives(s, p) >= 2) {
                bits |= 1 << p;
            }
        }
        return bits;
    }

    int person(int p, int what) {
        if (!isPerson(p) || what < 0 || what > 5) {
            return -2;
        }
        return new int[] {who(p).kind, now.at[p], who(p).shy, now.say[p], utters(now, p), wedTo(now, p)}[what];
    }

    int odds(int p, int s) {
        return isPerson(p) && isSaying(s) ? who(p).odds[s] : NONE;
    }

    int likes(int a, int b) {
        return isTwo(a, b) ? who(a).likes[b] : NONE;
    }

    private boolean clash(int a, int b) {
        for (int s = 0; s < 5; s++) {
            if (couldSnap(now, a, b) && who(a).odds[s] > 0 && who(b).odds[s] > 0) {
                return true;
            }
        }
        return false;
    }

    boolean two(int a, int b, int what) {
        if (!isTwo(a, b) || what < 0 || what > 3) {
            return false;
        }
        return new boolean[] {now.wed.contains(pair(a, b)), now.kept.contains(pair(a, b)), couldSnap(now, a, b),
            clash(a, b)}[what];
    }

    boolean say(int p, int s) {
        if (!isPerson(p) || !isSaying(s)) {
            return false;
        }
        remember();
        now.say[p] = s;
        return true;
    }

    boolean hush(int p) {
        if (!isPerson(p)) {
            return false;
        }
        remember();
        now.say[p] = NONE;
        return true;
    }

    boolean walk(int p, int to) {
        if (!isPerson(p) || !isPlace(to) || now.at[p] == to) {
            return false;
        }
        remember();
        now.at[p] = to;
        return true;
    }

    int moment() {
        remember();
        return pass(now);
    }

    int part(int a, int b) {
        if (!isTwo(a, b) || !now.wed.contains(pair(a, b))) {
            return NONE;
        }
        remember();
        int c = cost(now, a, b);
        now.wed.remove(pair(a, b));
        now.paid += c;
        return c;
    }

    boolean keep(int a, int b) {
        if (!isTwo(a, b) || now.kept.contains(pair(a, b))) {
            return false;
        }
        remember();
        now.kept.add(pair(a, b));
        return true;
    }

    boolean undo() {
        if (past.isEmpty()) {
            return false;
        }
        now = past.pop();
        return true;
    }

    int judged(int what) {
        if (what < 0 || what > 2) {
            return -2;
        }
        State s = fresh();
        int cannot = NONE;
        int bigamy = NONE;
        for (int i = 0; i < day.size(); i++) {
            Line l = day.get(i);
            boolean can = true;
            switch (l.verb) {
                case "say":
                    s.say[l.a] = l.b;
                    break;
                case "hush":
                    s.say[l.a] = NONE;
                    break;
                case "walk":
                    can = s.at[l.a] != l.b;
                    s.at[l.a] = l.b;
                    break;
                case "part":
                    can = s.wed.contains(pair(l.a, l.b));
                    s.wed.remove(pair(l.a, l.b));
                    break;
                case "keep":
                    can = s.kept.add(pair(l.a, l.b));
                    break;
                default:
                    pass(s);
                    if (bigamy == NONE && bigamistsOf(s) != 0) {
                        bigamy = i;
                    }
            }
            if (!can && cannot == NONE) {
                cannot = i;
            }
        }
        return what == 0 ? cannot : what == 1 ? bigamy : s.wed.size();
    }

    int bigamists() {
        return bigamistsOf(now);
    }

    int mend(int what) {
        if (what != 0 && what != 1) {
            return NONE;
        }
        int wed = bits(now.wed);
        int[] price = new int[15];
        for (int a = 0; a < land.people.size(); a++) {
            for (int b = a + 1; b < land.people.size(); b++) {
                price[pair(a, b)] = cost(now, a, b);
            }
        }
        int bestPaid = Integer.MAX_VALUE;
        int bestSet = 0;
        for (int set = 0; set < 1 << 15; set++) {
            if ((set & ~wed) != 0 || !monogamous(wed & ~set)) {
                continue;
            }
            int paid = 0;
            for (int i = 0; i < 15; i++) {
                paid += (set >> i & 1) * price[i];
            }
            if (paid < bestPaid || paid == bestPaid && Integer.bitCount(set) < Integer.bitCount(bestSet)) {
                bestPaid = paid;
                bestSet = set;
            }
        }
        return what == 0 ? bestPaid : bestSet;
    }

    private static boolean monogamous(int pairs) {
        int[] n = new int[6];
        int i = 0;
        for (int a = 0; a < 6; a++) {
            for (int b = a + 1; b < 6; b++) {
                n[a] += pairs >> i & 1;
                n[b] += pairs >> i & 1;
                i++;
            }
        }
        return Arrays.stream(n).max().getAsInt() <= 1;
    }

    // ---- odds

    private int chanceIn(State s, int a, int b) {
        int all = (who(a).sum() + who(a).shy) * (who(b).sum() + who(b).shy);
        if (all == 0 || !couldSnap(s, a, b)) {
            return 0;
        }
        BigInteger alike = BigInteger.ZERO;
        for (int i = 0; i < 5; i++) {
            alike = alike.add(BigInteger.valueOf(who(a).odds[i]).multiply(BigInteger.valueOf(who(b).odds[i])));
        }
        return alike.multiply(BigInteger.valueOf(1000000)).divide(BigInteger.valueOf(all)).intValue();
    }

    int chance(int a, int b) {
        return isTwo(a, b) ? chanceIn(now, a, b) : NONE;
    }

    private int some(int c, int moments) {
        BigInteger left = BigInteger.valueOf(1000000);
        for (int i = 0; i < moments; i++) {
            left = left.multiply(BigInteger.valueOf(1000000 - c)).divide(BigInteger.valueOf(1000000));
        }
        return 1000000 - left.intValue();
    }

    int within(int a, int b, int moments) {
        return isTwo(a, b) && moments >= 1 && moments <= 9 ? some(chanceIn(now, a, b), moments) : NONE;
    }

    int half(int a, int b) {
        if (isTwo(a, b)) {
            for (int m = 1; m <= 200; m++) {
                if (some(chanceIn(now, a, b), m) >= 500000) {
                    return m;
                }
            }
        }
        return NONE;
    }

    int safest(int p) {
        int best = NONE;
        int least = Integer.MAX_VALUE;
        for (int s = 0; isPerson(p) && s < land.sayings.size(); s++) {
            int sum = 0;
            for (int q = 0; q < land.people.size(); q++) {
                if (q != p && couldSnap(now, p, q) && who(q).odds[s] > 0) {
                    sum += 1000000 * who(q).odds[s] / (who(q).sum() + who(q).shy);
                }
            }
            if (who(p).odds[s] > 0 && sum < least) {
                least = sum;
                best = s;
            }
        }
        return best;
    }

    int haven(int p) {
        int best = NONE;
        int least = Integer.MAX_VALUE;
        for (int place = 0; isPerson(p) && place < land.places.size(); place++) {
            State s = now.copy();
            s.at[p] = place;
            int sum = 0;
            for (int q = 0; q < land.people.size(); q++) {
                sum += q == p ? 0 : chanceIn(s, p, q);
            }
            if (sum < least) {
                least = sum;
                best = place;
            }
        }
        return best;
    }

    int matches(int what) {
        int n = land.people.size();
        if (what != NONE && !isPerson(what)) {
            return -2;
        }
        int rows = (int) Math.round(Math.pow(n, n));
        int found = 0;
        int[] first = null;
        for (int r = 0; r < rows; r++) {
            int[] row = new int[n];
            int rest = r;
            for (int p = n - 1; p >= 0; p--) {
                row[p] = rest % n;
                rest /= n;
            }
            if (isMatch(row)) {
                first = found == 0 ? row : first;
                found++;
            }
        }
        return what == NONE ? found : found == 0 ? -2 : first[what];
    }

    private boolean couldBe(int a, int b) {
        return who(a).kind != 1 && who(b).kind != 1 && !now.kept.contains(pair(a, b));
    }

    private boolean isMatch(int[] row) {
        for (int p = 0; p < row.length; p++) {
            if (row[row[p]] != p || row[p] != p && !couldBe(p, row[p])) {
                return false;
            }
        }
        for (int a = 0; a < row.length; a++) {
            for (int b = 0; b < row.length; b++) {
                if (a != b && couldBe(a, b)) {
                    int hasA = row[a] == a ? 0 : who(a).likes[row[a]];
                    int hasB = row[b] == b ? 0 : who(b).likes[row[b]];
                    if (who(a).likes[b] > hasA && who(b).likes[a] > hasB) {
                        return false;
                    }
                }
            }
        }
        return true;
    }

    int code(int a, int b) {
        for (int s = 0; isTwo(a, b) && s < land.sayings.size(); s++) {
            boolean fine = who(a).odds[s] > 0 && who(b).odds[s] > 0;
            for (int q = 0; q < land.people.size(); q++) {
                fine = fine && (q == a || q == b || now.at[q] != now.at[a] || who(q).odds[s] == 0);
            }
            if (fine) {
                return s;
            }
        }
        return NONE;
    }

    int may(int place, int s) {
        if (!isPlace(place) || !isSaying(s)) {
            return NONE;
        }
        int bits = 0;
        for (int p = 0; p < land.people.size(); p++) {
            bits |= now.at[p] == place && who(p).odds[s] > 0 ? 1 << p : 0;
        }
        return bits;
    }

    private List<Integer> present(int place) {
        List<Integer> there = new ArrayList<>();
        for (int p = 0; p < land.people.size(); p++) {
            if (now.at[p] == place) {
                there.add(p);
            }
        }
        return there;
    }

    int rota(int place, int person) {
        if (!isPlace(place) || person != NONE && !isPerson(person)) {
            return -2;
        }
        List<Integer> there = present(place);
        int n = there.size();
        if (n == 0) {
            return person == NONE ? 0 : NONE;
        }
        for (int k = 1; k <= n; k++) {
            int rows = (int) Math.round(Math.pow(k, n));
            for (int r = 0; r < rows; r++) {
                int[] row = new int[n];
                int rest = r;
                for (int i = n - 1; i >= 0; i--) {
                    row[i] = rest % k;
                    rest /= k;
                }
                boolean fine = true;
                for (int i = 0; i < n; i++) {
                    for (int j = 0; j < i; j++) {
                        fine = fine && !(row[i] == row[j] && clash(there.get(i), there.get(j)));
                    }
                }
                if (fine) {
                    return person == NONE ? k : there.contains(person) ? row[there.indexOf(person)] : NONE;
                }
            }
        }
        throw new IllegalStateException();
    }

    int company(int place) {
        if (!isPlace(place)) {
            return NONE;
        }
        List<Integer> there = present(place);
        int best = 0;
        for (int set = 0; set < 64; set++) {
            boolean fine = true;
            for (int a = 0; a < 6; a++) {
                fine = fine && ((set >> a & 1) == 0 || there.contains(a));
                for (int b = 0; b < a && fine; b++) {
                    fine = (set >> a & 1) == 0 || (set >> b & 1) == 0 || !clash(a, b);
                }
            }
            if (fine && Integer.bitCount(set) > Integer.bitCount(best)) {
                best = set;
            }
        }
        return best;
    }

    boolean hear(int s) {
        if (s != NONE && !isSaying(s) || heard.size() == 5) {
            return false;
        }
        heard.add(s);
        return true;
    }

    private boolean maySay(int p, int s) {
        return s == NONE ? who(p).shy > 0 || who(p).sum() == 0 : who(p).odds[s] > 0;
    }

    int who() {
        int bits = 0;
        for (int p = 0; p < land.people.size(); p++) {
            boolean all = true;
            for (int s : heard) {
                all = all && maySay(p, s);
            }
            bits |= all ? 1 << p : 0;
        }
        return bits;
    }

    int likely() {
        int best = NONE;
        BigInteger bestOver = null;
        BigInteger bestUnder = null;
        for (int p = 0; p < land.people.size(); p++) {
            BigInteger over = BigInteger.ONE;
            BigInteger under = BigInteger.ONE;
            int all = who(p).sum() + who(p).shy;
            for (int s : heard) {
                if (all == 0) {
                    over = s == NONE ? over : BigInteger.ZERO;
                } else {
                    over = over.multiply(BigInteger.valueOf(s == NONE ? who(p).shy : who(p).odds[s]));
                    under = under.multiply(BigInteger.valueOf(all));
                }
            }
            if (over.signum() > 0
                    && (best == NONE || over.multiply(bestUnder).compareTo(bestOver.multiply(under)) > 0)) {
                best = p;
                bestOver = over;
                bestUnder = under;
            }
        }
        return best;
    }

    int ask() {
        int all = Integer.bitCount(who());
        int best = -2;
        int least = all;
        for (int s = NONE; s < land.sayings.size(); s++) {
            int may = 0;
            for (int p = 0; p < land.people.size(); p++) {
                may += (who() >> p & 1) == 1 && maySay(p, s) ? 1 : 0;
            }
            int greater = Math.max(may, all - may);
            if (greater < least) {
                least = greater;
                best = s;
            }
        }
        return best;
    }

    int rests(int gets, int loses, int what) {
        if (gets < 0 || gets > 9 || loses < 0 || loses > 9) {
            throw new NoSuchElementException();
        }
        int[][] pay = new int[4][4];
        for (int a = 0; a < 4; a++) {
            for (int b = 0; b < 4; b++) {
                pay[a][b] = a == 3 ? 0 : a == b ? gets : -loses;
            }
        }
        List<Integer> found = new ArrayList<>();
        for (int a = 0; a < 4; a++) {
            for (int b = 0; b < 4; b++) {
                boolean rest = true;
                for (int c = 0; c < 4; c++) {
                    rest = rest && pay[c][b] <= pay[a][b] && pay[c][a] <= pay[b][a];
                }
                if (rest) {
                    found.add(4 * a + b);
                }
            }
        }
        if (what == NONE) {
            return found.size();
        }
        if (what < 0 || what >= found.size()) {
            throw new NoSuchElementException();
        }
        return found.get(what);
    }

    private BigInteger g;

    private int draw(int below) {
        g = g.multiply(BigInteger.valueOf(1103515245)).add(BigInteger.valueOf(12345))
                .mod(BigInteger.valueOf(2147483648L));
        return g.divide(BigInteger.valueOf(65536)).mod(BigInteger.valueOf(below)).intValue();
    }

    int generations(int seed, int moments, int what) {
        if (seed < 0 || seed > 9999 || moments < 1 || moments > 60 || what < 0 || what > 2) {
            return NONE;
        }
        g = BigInteger.valueOf(seed);
        State s = now.copy();
        int pairs = 0;
        int times = 0;
        for (int i = 0; i < moments; i++) {
            for (int p = 0; p < land.people.size(); p++) {
                int all = who(p).sum() + who(p).shy;
                if (all != 0) {
                    int d = draw(all);
                    s.say[p] = NONE;
                    int sum = 0;
                    for (int w = 0; w < 5 && s.say[p] == NONE; w++) {
                        sum += who(p).odds[w];
                        s.say[p] = sum > d ? w : NONE;
                    }
                }
            }
            if (!land.people.isEmpty() && !land.places.isEmpty()) {
                int p = draw(land.people.size());
                s.at[p] = draw(land.places.size());
            }
            int fresh = pass(s);
            pairs += Integer.bitCount(fresh);
            times += fresh != 0 ? 1 : 0;
        }
        return what == 0 ? pairs : what == 1 ? Integer.bitCount(bigamistsOf(s)) : times;
    }

    boolean mark(int m, boolean back) {
        if (m < 0 || m > 3 || back && marks[m] == null) {
            return false;
        }
        if (back) {
            now = marks[m].copy();
            heard = new ArrayList<>(markHeard.get(m));
            past.clear();
        } else {
            marks[m] = now.copy();
            markHeard.set(m, new ArrayList<>(heard));
        }
        return true;
    }

    int count(int what) {
        if (what < 0 || what > 10) {
            return NONE;
        }
        return new int[] {land.sayings.size(), land.places.size(), land.people.size(), now.moment, bits(now.wed),
            bits(now.kept), now.paid, day.size(), heard.size(), past.size(), tape.length()}[what];
    }
}
