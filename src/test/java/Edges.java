import java.lang.reflect.InvocationTargetException;
import java.lang.reflect.Method;
import java.util.Set;
import java.util.TreeSet;

/** What the tests of boundary cases share: each is a method named after its promise and runs by itself. */
final class Edges {
    private static final int MIN = Integer.MIN_VALUE;
    private static final int MAX = Integer.MAX_VALUE;

    private Edges() {
    }

    /** Every promise from the first to the last must have a test in the class, so that none is forgotten. */
    static void run(Class<?> tests, int firstPromise, int lastPromise) throws IllegalAccessException {
        Set<String> names = new TreeSet<>();
        for (Method m : tests.getDeclaredMethods()) {
            if (m.getName().startsWith("promise")) {
                names.add(m.getName());
            }
        }
        for (String name : names) {
            runOne(tests, name);
        }
        for (int promise = firstPromise; promise <= lastPromise; promise++) {
            Check.due("promise " + promise + " has a test", hasTest(names, promise), true);
        }
        Check.end(tests.getName() + " (" + names.size() + " boundary cases)");
    }

    private static void runOne(Class<?> tests, String name) throws IllegalAccessException {
        int wrongAhead = Check.wrong();
        try {
            tests.getDeclaredMethod(name).invoke(null);
        } catch (InvocationTargetException e) {
            Check.due(name + " threw " + e.getCause() + ", 1", 1, 0);
        } catch (NoSuchMethodException e) {
            Check.due(name + " takes arguments, 1", 1, 0);
        }
        if (Check.wrong() > wrongAhead) {
            System.out.println("    that was " + name);
        }
    }

    private static boolean hasTest(Set<String> names, int promise) {
        String start = (promise < 10 ? "promise0" : "promise") + promise;
        for (String name : names) {
            if (name.startsWith(start)) {
                return true;
            }
        }
        return false;
    }

    /** Next to what is allowed on both sides, and as far away as can be. */
    static int[] outside(int least, int most) {
        return new int[] {least - 1, most + 1, MIN, MAX, MIN + 1, MAX - 1};
    }

    /** Words w and v, places p and q, and so many plain people a, b .. at p, who are not shy. */
    static String village(int people) {
        StringBuilder text = new StringBuilder("word w;word v;place p;place q;");
        for (int i = 0; i < people; i++) {
            text.append("person ").append((char) ('a' + i)).append(" plain at p shy 0;");
        }
        return text.toString();
    }

    static void sayAll(SnapWed x, int saying, int... people) {
        for (int person : people) {
            Check.due("say(" + person + ", " + saying + ")", x.say(person, saying), true);
        }
    }

    /** These say the same in one moment. */
    static int snap(SnapWed x, int saying, int... people) {
        sayAll(x, saying, people);
        return x.moment();
    }

    /** The sign ^ stands right ahead of the token that is wrong; it is not fed. Kind 0 is no fault. */
    static void provinceFault(int kind, String text) {
        int want = kind == 0 ? 0 : kind + 16 * text.indexOf('^');
        Check.due("province " + text, Check.province(new SnapWed(), text.replace("^", "")), want);
    }

    static void dayFault(String land, int kind, String text) {
        int want = kind == 0 ? 0 : kind + 16 * text.indexOf('^');
        Check.due("day " + text, Check.day(Check.in(land), text.replace("^", "")), want);
    }

    /** Two are wed under this law of parting and part: what is paid. */
    static int paidBy(String law) {
        SnapWed x = Check.in(village(2) + law);
        Check.due("wed", snap(x, 0, 0, 1), 1);
        return x.part(0, 1);
    }

    /** Much of what can be asked, so that it can be seen that nothing of it changed: some 120 calls. */
    static String portrait(SnapWed x) {
        StringBuilder all = new StringBuilder();
        for (int what = 0; what <= 10; what++) {
            all.append(x.count(what)).append(' ');
        }
        for (int person = 0; person < 6; person++) {
            for (int what = 0; what < 6; what++) {
                all.append(x.person(person, what)).append(' ');
            }
            all.append(x.odds(person, 0)).append(' ').append(x.likes(person, 1)).append('\n');
        }
        for (int what = 0; what < 3; what++) {
            all.append(x.judged(what)).append(' ').append(x.generations(5, 9, what)).append(' ');
        }
        all.append(x.who()).append(' ').append(x.likely()).append(' ').append(x.ask()).append(' ');
        all.append(x.mend(0)).append(' ').append(x.matches(-1)).append(' ').append(x.company(0));
        return all.toString();
    }

    static void same(String what, String before, String after) {
        Check.due(what + ": all is as it was, not\n" + after + "\nbut\n" + before + "\nthat", after.equals(before), true);
    }
}
