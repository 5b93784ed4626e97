import java.nio.charset.StandardCharsets;
import java.util.ArrayList;
import java.util.List;
import java.util.NoSuchElementException;
import java.util.Random;

/** Random runs of calls, each answer compared with the model's; one object gets at most 512 calls. */
public final class ModelTest {
    private static final int RUNS = 400;
    private static final int CALLS = 500;
    private static final int NOTHING = 123456789;

    private final Random random;
    private final SnapWed x = new SnapWed();
    private final Model m = new Model();
    private final List<String> log = new ArrayList<>();
    private int calls;

    private ModelTest(long seed) {
        random = new Random(seed);
    }

    public static void main(String[] args) {
        for (int seed = 0; seed < RUNS && Check.allIsWell(); seed++) {
            new ModelTest(seed).run(seed);
        }
        Check.end("ModelTest");
    }

    private void run(int seed) {
        if (random.nextInt(8) != 0) {
            tellProvince();
        }
        while (calls < CALLS && Check.allIsWell()) {
            anyCall();
        }
        if (!Check.allIsWell()) {
            System.out.println("seed " + seed + ", " + log.size() + " calls:");
            log.forEach(System.out::println);
        }
    }

    private void same(String call, long got, long want) {
        calls++;
        log.add(call + " = " + got);
        Check.due(call, got, want);
    }

    private void same(String call, boolean got, boolean want) {
        same(call, got ? 1L : 0L, want ? 1L : 0L);
    }

    // ---- texts

    private String name(String letter, int most) {
        return letter + (char) ('a' + random.nextInt(most));
    }

    private String anyName() {
        return random.nextInt(12) == 0 ? new String[] {"back", "liking", "wives", "shy", "moment", "zz"}[random.nextInt(6)]
                : random.nextInt(3) == 0 ? name("w", 5) : random.nextBoolean() ? name("p", 4) : name("q", 6);
    }

    private String law(int deep) {
        StringBuilder s = new StringBuilder(test(deep));
        while (random.nextInt(3) == 0) {
            s.append(random.nextBoolean() ? " and " : " or ").append(test(deep));
        }
        return s.toString();
    }

    private String test(int deep) {
        int sort = random.nextInt(4);
        return sort == 0 ? sum(deep) + "<" + sum(deep) : sort == 1 ? sum(deep) + "=" + sum(deep) : sum(deep);
    }

    private String sum(int deep) {
        StringBuilder s = new StringBuilder(product(deep));
        while (random.nextInt(3) == 0) {
            s.append(random.nextBoolean() ? "+" : " - ").append(product(deep));
        }
        return s.toString();
    }

    private String product(int deep) {
        return random.nextInt(4) == 0 ? piece(deep) + "*" + product(deep) : piece(deep);
    }

    private String piece(int deep) {
        int sort = random.nextInt(deep > 4 ? 7 : 10);
        if (sort < 2) {
            return Integer.toString(random.nextInt(sort == 0 ? 4 : 10000));
        }
        if (sort < 7) {
            return new String[] {"liking", "back", "wives", "liking ", "back "}[sort - 2];
        }
        return sort < 8 ? "not " + piece(deep + 1) : "(" + law(deep + 1) + ")";
    }

    private String provinceText() {
        int words = random.nextInt(6);
        int places = random.nextInt(5);
        int people = places == 0 ? 0 : random.nextInt(3) == 0 ? 6 : random.nextInt(7);
        int homes = random.nextInt(3) == 0 ? 1 : places;
        List<String> lines = new ArrayList<>();
        for (int i = 0; i < words; i++) {
            lines.add("word w" + (char) ('a' + i));
        }
        for (int i = 0; i < places; i++) {
            lines.add("place p" + (char) ('a' + i));
        }
        String[] kinds = {"plain", "plain", "plain", "deaf", "stammer", "echo"};
        for (int i = 0; i < people; i++) {
            lines.add("person q" + (char) ('a' + i) + " " + kinds[random.nextInt(6)] + " at " + name("p", homes)
                    + " shy " + (random.nextInt(3) == 0 ? 0 : random.nextInt(10)));
        }
        for (int i = 0; i < people; i++) {
            for (int j = 0; j < words; j++) {
                if (random.nextInt(2) == 0) {
                    lines.add("says q" + (char) ('a' + i) + " w" + (char) ('a' + j) + " " + (1 + random.nextInt(9)));
                }
            }
            for (int j = 0; j < people; j++) {
                if (i != j && random.nextInt(3) == 0) {
                    lines.add("likes q" + (char) ('a' + i) + " q" + (char) ('a' + j) + " " + random.nextInt(10));
                }
                if (i < j && random.nextInt(8) == 0) {
                    lines.add(random.nextBoolean() ? "kept q" + (char) ('a' + i) + " q" + (char) ('a' + j)
                            : "kept q" + (char) ('a' + j) + " q" + (char) ('a' + i));
                }
            }
        }
        if (random.nextInt(2) == 0) {
            lines.add(random.nextInt(lines.size() + 1), "counts " + law(random.nextInt(4) == 0 ? 0 : 3));
        }
        if (random.nextInt(2) == 0) {
            lines.add("parts " + law(random.nextInt(4) == 0 ? 0 : 3));
        }
        return joined(lines, 1000);
    }

    private String dayText() {
        List<String> lines = new ArrayList<>();
        int size = random.nextInt(10) == 0 ? 29 + random.nextInt(3) : random.nextInt(25);
        int people = Math.max(1, m.count(2));
        int words = Math.max(1, m.count(0));
        int places = Math.max(1, m.count(1));
        for (int i = 0; i < size; i++) {
            String one = name("q", people);
            String other = name("q", people);
            switch (random.nextInt(9)) {
                case 0:
                    lines.add("hush " + one);
                    break;
                case 1:
                    lines.add("walk " + one + " " + name("p", places));
                    break;
                case 2:
                    lines.add(one.equals(other) ? "moment" : "part " + one + " " + other);
                    break;
                case 3:
                    lines.add(one.equals(other) ? "moment" : "keep " + one + " " + other);
                    break;
                case 4:
                    lines.add("moment");
                    break;
                default:
                    lines.add("say " + one + " " + name("w", random.nextBoolean() ? 1 : words));
            }
        }
        return joined(lines, 1000);
    }

    private static String joined(List<String> lines, int most) {
        StringBuilder text = new StringBuilder();
        for (String line : lines) {
            if (text.length() + line.length() + 1 <= most) {
                text.append(line).append(';');
            }
        }
        return text.toString();
    }

    /** A text with one thing changed: what is wrong with it then must be told at the same place by both. */
    private String spoilt(String text) {
        if (text.isEmpty()) {
            return "x";
        }
        int at = random.nextInt(text.length());
        switch (random.nextInt(7)) {
            case 0:
                return text.substring(0, at);
            case 1:
                return text.substring(0, at) + text.substring(Math.min(text.length(), at + 1 + random.nextInt(6)));
            case 2:
                return text.substring(0, at) + "()<=+-*; \n?aZ09".charAt(random.nextInt(15)) + text.substring(at);
            case 3:
                return text.substring(0, at) + " " + anyName() + " " + text.substring(at);
            case 4:
                int line = text.lastIndexOf(';', at) + 1;
                int end = text.indexOf(';', at) + 1;
                return text + text.substring(line, Math.max(line, end));
            case 5:
                return text.substring(0, at) + (char) ('0' + random.nextInt(10)) + text.substring(at + 1);
            default:
                return text.replaceFirst("[wpq][a-f]", anyName());
        }
    }

    private void feed(String text) {
        byte[] bytes = text.getBytes(StandardCharsets.ISO_8859_1);
        for (int from = 0; from < bytes.length && calls < CALLS; from += 24) {
            feed(Check.eight(bytes, from), Check.eight(bytes, from + 8), Check.eight(bytes, from + 16));
        }
    }

    private void feed(long a, long b, long c) {
        same("feed(" + a + ", " + b + ", " + c + ")", x.feed(a, b, c), m.feed(a, b, c));
    }

    private void tellProvince() {
        String text = provinceText();
        for (int i = random.nextInt(10); i > 8; i--) {
            text = spoilt(text);
        }
        feed(text);
        same("province() " + text, x.province(), m.province());
    }

    private void tellSpoiltProvince() {
        String text = provinceText();
        text = spoilt(text.substring(0, Math.min(text.length(), 150)));
        feed(text);
        same("province() " + text, x.province(), m.province());
    }

    private void tellDay() {
        String text = dayText();
        if (random.nextInt(3) == 0) {
            text = spoilt(text);
        }
        feed(text);
        same("day() " + text, x.day(), m.day());
    }

    // ---- calls

    private int some(int size) {
        int r = random.nextInt(40);
        if (r == 0) {
            return new int[] {Integer.MIN_VALUE, Integer.MAX_VALUE, -2, -3, 64, 1 << 16}[random.nextInt(6)];
        }
        return r < 3 ? -1 : r == 3 ? size : size == 0 ? 0 : random.nextInt(size);
    }

    private int p() {
        return some(m.count(2));
    }

    private int w() {
        return some(m.count(0));
    }

    private int place() {
        return some(m.count(1));
    }

    private void anyCall() {
        int sort = random.nextInt(120);
        if (sort < 30) {
            act(sort);
        } else if (sort < 60) {
            look(random.nextInt(5));
        } else if (sort < 118) {
            ask(random.nextInt(20));
        } else if (sort == 118) {
            tellDay();
        } else {
            tellAgain(random.nextInt(6));
        }
    }

    private void tellAgain(int sort) {
        if (sort == 0) {
            tellProvince();
        } else if (sort < 4) {
            tellSpoiltProvince();
        } else {
            feed(random.nextLong(), random.nextLong(), random.nextLong());
            if (random.nextBoolean()) {
                same("province()", x.province(), m.province());
            } else {
                same("day()", x.day(), m.day());
            }
        }
    }

    private void act(int sort) {
        int a = p();
        int b = p();
        if (sort < 12) {
            int s = random.nextInt(3) == 0 ? w() : 0;
            same("say(" + a + ", " + s + ")", x.say(a, s), m.say(a, s));
        } else if (sort == 12) {
            same("hush(" + a + ")", x.hush(a), m.hush(a));
        } else if (sort < 16) {
            int to = place();
            same("walk(" + a + ", " + to + ")", x.walk(a, to), m.walk(a, to));
        } else if (sort < 22) {
            same("moment()", x.moment(), m.moment());
        } else if (sort < 24) {
            same("part(" + a + ", " + b + ")", x.part(a, b), m.part(a, b));
        } else if (sort == 24) {
            same("keep(" + a + ", " + b + ")", x.keep(a, b), m.keep(a, b));
        } else if (sort == 25) {
            same("undo()", x.undo(), m.undo());
        } else if (sort == 26) {
            for (int i = random.nextInt(20); i > 0 && calls < CALLS; i--) {
                same("undo()", x.undo(), m.undo());
            }
        } else if (sort == 27) {
            int s = w();
            same("hear(" + s + ")", x.hear(s), m.hear(s));
        } else {
            int mark = some(4);
            boolean back = random.nextInt(3) == 0;
            same("mark(" + mark + ", " + back + ")", x.mark(mark, back), m.mark(mark, back));
        }
    }

    private void look(int sort) {
        int a = p();
        int b = p();
        int what = some(sort == 0 ? 6 : sort == 1 ? 4 : 11);
        if (sort == 0) {
            same("person(" + a + ", " + what + ")", x.person(a, what), m.person(a, what));
        } else if (sort == 1) {
            same("two(" + a + ", " + b + ", " + what + ")", x.two(a, b, what), m.two(a, b, what));
        } else if (sort == 2) {
            int s = w();
            same("odds(" + a + ", " + s + ")", x.odds(a, s), m.odds(a, s));
            same("likes(" + a + ", " + b + ")", x.likes(a, b), m.likes(a, b));
        } else {
            same("count(" + what + ")", x.count(what), m.count(what));
        }
    }

    private void ask(int sort) {
        int a = p();
        int b = p();
        int s = w();
        int at = place();
        int n = some(10);
        switch (sort) {
            case 0:
                n = some(3);
                same("judged(" + n + ")", x.judged(n), m.judged(n));
                break;
            case 1:
                same("bigamists()", x.bigamists(), m.bigamists());
                break;
            case 2:
                n = some(2);
                same("mend(" + n + ")", x.mend(n), m.mend(n));
                break;
            case 3:
                same("chance(" + a + ", " + b + ")", x.chance(a, b), m.chance(a, b));
                break;
            case 4:
                same("within(" + a + ", " + b + ", " + n + ")", x.within(a, b, n), m.within(a, b, n));
                break;
            case 5:
                same("half(" + a + ", " + b + ")", x.half(a, b), m.half(a, b));
                break;
            case 6:
                same("safest(" + a + ")", x.safest(a), m.safest(a));
                break;
            case 7:
                same("haven(" + a + ")", x.haven(a), m.haven(a));
                break;
            case 8:
                n = random.nextInt(3) == 0 ? -1 : a;
                same("matches(" + n + ")", x.matches(n), m.matches(n));
                break;
            case 9:
                same("code(" + a + ", " + b + ")", x.code(a, b), m.code(a, b));
                break;
            case 10:
                same("may(" + at + ", " + s + ")", x.may(at, s), m.may(at, s));
                break;
            case 11:
                same("rota(" + at + ", " + a + ")", x.rota(at, a), m.rota(at, a));
                break;
            case 12:
                same("company(" + at + ")", x.company(at), m.company(at));
                break;
            case 13:
                same("hear(" + s + ")", x.hear(s), m.hear(s));
                break;
            case 14:
                same("who()", x.who(), m.who());
                break;
            case 15:
                same("likely()", x.likely(), m.likely());
                break;
            case 16:
                same("ask()", x.ask(), m.ask());
                break;
            case 17:
                rests(some(10), some(10), some(17));
                break;
            default:
                generations(some(10000), random.nextInt(30) == 0 ? some(62) : 1 + random.nextInt(60), some(3));
        }
    }

    private void rests(int gets, int loses, int what) {
        int got = NOTHING;
        int want = NOTHING;
        try {
            got = x.rests(gets, loses, what);
        } catch (NoSuchElementException e) {
            got = NOTHING;
        }
        try {
            want = m.rests(gets, loses, what);
        } catch (NoSuchElementException e) {
            want = NOTHING;
        }
        same("rests(" + gets + ", " + loses + ", " + what + ")", got, want);
    }

    private void generations(int seed, int moments, int what) {
        same("generations(" + seed + ", " + moments + ", " + what + ")", x.generations(seed, moments, what),
                m.generations(seed, moments, what));
    }
}
