import java.util.NoSuchElementException;

/** Promise by promise: ordinary inputs, the edges that the document names, wrong inputs. */
public final class PromisesTest {
    private static final int MIN = Integer.MIN_VALUE;
    private static final int MAX = Integer.MAX_VALUE;
    private static final int THROWS = 777777;

    /** Three plain people at one place and one elsewhere; w is a word that all may say. */
    private static final String TOWN = "word w;word v;place p;place q;person a plain at p shy 0;"
            + "person b plain at p shy 0;person c plain at p shy 0;person d plain at q shy 0;";

    private PromisesTest() {
    }

    public static void main(String[] args) {
        newObject();
        feed();
        province();
        day();
        person();
        oddsAndLikes();
        two();
        sayAndHush();
        walk();
        moment();
        stammerer();
        echo();
        laws();
        part();
        keep();
        undo();
        judged();
        bigamistsAndMend();
        chance();
        withinAndHalf();
        safest();
        haven();
        matches();
        code();
        may();
        rota();
        company();
        hearing();
        likely();
        ask();
        rests();
        generations();
        mark();
        count();
        Check.end("PromisesTest");
    }

    private static void saysAll(SnapWed x, int saying, int... people) {
        for (int person : people) {
            Check.due("say(" + person + ", " + saying + ")", x.say(person, saying), true);
        }
    }

    // ---- 1 to 4

    private static void newObject() {
        Check.due("NONE", SnapWed.NONE, -1);
        SnapWed x = new SnapWed();
        for (int what = 0; what <= 10; what++) {
            Check.due("new count(" + what + ")", x.count(what), 0);
        }
        Check.due("new undo", x.undo(), false);
        for (int mark = 0; mark < 4; mark++) {
            Check.due("new mark back", x.mark(mark, true), false);
        }
        Check.due("new who", x.who(), 0);
        Check.due("new matches", x.matches(-1), 1);
        Check.due("new person", x.person(0, 0), -2);
        Check.due("new generations", x.generations(0, 60, 2), 0);
    }

    private static void feed() {
        SnapWed x = new SnapWed();
        Check.due("nothing", x.feed(0, 0, 0), 0);
        Check.due("signs that are none", x.feed(0x00_01_09_0b_1f_7f_80_ffL, -1, 0x0d_0d_0d_0d_0d_0d_0d_0dL), 0);
        Check.due("edges", x.feed(0x0a_20_7e_00_00_00_00_00L, 0, 0x0000_0000_0000_000aL), 4);
        Check.due("count", x.count(10), 4);
        x.province();
        Check.due("taken", x.count(10), 0);
        Check.due("highest first", Check.province(x, "word abcdefgh;"), 0);
        Check.due("a, b, c", x.feed(0x776f726420616263L, 0x3b0000000000003bL, 0x2020202020202020L), 18);
        Check.due("the second ; stands at 9", x.province(), 1 + 16 * 9);
        for (int i = 1; i <= 41; i++) {
            Check.due("feed " + i, x.feed(0x2020202020202020L, 0x2020202020202020L, 0x2020202020202020L), 24 * i);
        }
        Check.due("984 and 16", x.feed(0x2020202020202020L, 0x2020202020202020L, 0x3b3b3b3b3b3b3b3bL), 1000);
        Check.due("no more", x.feed(0x3b3b3b3b3b3b3b3bL, 0, 0), 1000);
        Check.due("blanks alone", x.province(), 0);
    }

    private static void province() {
        SnapWed x = Check.in(TOWN);
        Check.due("sayings", x.count(0), 2);
        Check.due("places", x.count(1), 2);
        Check.due("people", x.count(2), 4);
        Check.due("fault", Check.province(x, "word w ;;"), 1 + 16 * 8);
        Check.due("stays", x.count(2), 4);
        StringBuilder longest = new StringBuilder("counts 1");
        while (longest.length() < 998) {
            longest.append("+1");
        }
        Check.due("a law of 1,000 signs", Check.province(x, longest + " ;"), 0);
        Check.due("a fault at the end", Check.province(x, longest + "+1;"), 1 + 16 * 1000);
    }

    private static void day() {
        SnapWed x = Check.in(TOWN);
        Check.due("a day", Check.day(x, "say a w;\nmoment;"), 0);
        Check.due("its lines", x.count(7), 2);
        Check.due("its fault", Check.day(x, "say a b;"), 2 + 16 * 6);
        Check.due("lines stay", x.count(7), 2);
        Check.due("nothing is done by it", x.count(3), 0);
    }

    // ---- 5 to 8

    private static void person() {
        SnapWed x = Check.in("word w;word v;place p;place q;person a plain at q shy 0;person b deaf at p shy 9;"
                + "person c stammer at q shy 4;person d echo at q shy 5;");
        int[] kinds = {0, 1, 2, 3};
        int[] places = {1, 0, 1, 1};
        int[] shy = {0, 9, 4, 5};
        for (int p = 0; p < 4; p++) {
            Check.due("kind", x.person(p, 0), kinds[p]);
            Check.due("place", x.person(p, 1), places[p]);
            Check.due("shy", x.person(p, 2), shy[p]);
            Check.due("to say", x.person(p, 3), -1);
            Check.due("utters", x.person(p, 4), -1);
            Check.due("wed", x.person(p, 5), 0);
            Check.due("what 6", x.person(p, 6), -2);
            Check.due("what -1", x.person(p, -1), -2);
        }
        for (int p : new int[] {-1, 4, 6, MIN, MAX}) {
            Check.due("nobody", x.person(p, 0), -2);
        }
        x.say(0, 1);
        x.say(1, 1);
        x.say(2, 1);
        x.say(3, 0);
        int[] utters = {1, 1, -1, 0};
        int[] toSay = {1, 1, 1, 0};
        for (int p = 0; p < 4; p++) {
            Check.due("to say now", x.person(p, 3), toSay[p]);
            Check.due("utters now", x.person(p, 4), utters[p]);
        }
        x.walk(0, 0);
        Check.due("walked", x.person(0, 1), 0);
    }

    private static void oddsAndLikes() {
        SnapWed x = Check.in(TOWN + "says a w 9;says b v 1;likes a b 9;likes a c 0;");
        Check.due("odds", x.odds(0, 0), 9);
        Check.due("odds untold", x.odds(0, 1), 0);
        Check.due("odds", x.odds(1, 1), 1);
        Check.due("likes", x.likes(0, 1), 9);
        Check.due("likes told as 0", x.likes(0, 2), 0);
        Check.due("likes untold", x.likes(1, 0), 0);
        Check.due("the same", x.likes(1, 1), -1);
        for (int bad : new int[] {-1, 4, MIN, MAX}) {
            Check.due("odds of nobody", x.odds(bad, 0), -1);
            Check.due("likes of nobody", x.likes(bad, 0), -1);
            Check.due("likes nobody", x.likes(0, bad), -1);
            Check.due("no saying", x.odds(0, bad == 4 ? 2 : bad), -1);
        }
        Check.due("a liking can be overwritten by a province alone", Check.province(x, TOWN), 0);
        Check.due("odds are gone", x.odds(0, 0), 0);
        Check.due("likes are gone", x.likes(0, 1), 0);
    }

    private static void two() {
        SnapWed x = Check.in(TOWN + "person e deaf at p shy 0;kept c b;says a w 1;says b w 2;says c v 1;says e w 1;");
        Check.due("clash", x.two(0, 1, 3), true);
        Check.due("clash", x.two(1, 0, 3), true);
        Check.due("no word for both", x.two(0, 2, 3), false);
        Check.due("could snap", x.two(2, 0, 2), true);
        Check.due("kept", x.two(1, 2, 1), true);
        Check.due("kept", x.two(2, 1, 1), true);
        Check.due("not kept", x.two(0, 1, 1), false);
        Check.due("kept can't snap", x.two(1, 2, 2), false);
        Check.due("deaf can't snap", x.two(0, 4, 2), false);
        Check.due("deaf don't clash", x.two(0, 4, 3), false);
        Check.due("elsewhere", x.two(0, 3, 2), false);
        saysAll(x, 0, 0, 1);
        x.moment();
        Check.due("wed", x.two(0, 1, 0), true);
        Check.due("wed", x.two(1, 0, 0), true);
        Check.due("not wed", x.two(0, 2, 0), false);
        Check.due("wed can't snap", x.two(0, 1, 2), false);
        Check.due("wed don't clash", x.two(0, 1, 3), false);
        for (int what : new int[] {-1, 4, MIN, MAX}) {
            Check.due("what", x.two(0, 1, what), false);
        }
        for (int bad : new int[] {-1, 5, MIN, MAX}) {
            Check.due("nobody", x.two(bad, 0, 2), false);
            Check.due("nobody", x.two(0, bad, 2), false);
        }
        Check.due("the same", x.two(0, 0, 2), false);
    }

    // ---- 9 to 15

    private static void sayAndHush() {
        SnapWed x = Check.in(TOWN);
        Check.due("say without odds", x.say(0, 1), true);
        Check.due("in place of another", x.say(0, 0), true);
        Check.due("the same again", x.say(0, 0), true);
        Check.due("to say", x.person(0, 3), 0);
        Check.due("undone", x.count(9), 3);
        for (int bad : new int[] {-1, 4, MIN, MAX}) {
            Check.due("say of nobody", x.say(bad, 0), false);
            Check.due("hush of nobody", x.hush(bad), false);
            Check.due("say nothing", x.say(0, bad == 4 ? 2 : bad), false);
        }
        Check.due("nothing done", x.count(9), 3);
        Check.due("hush", x.hush(0), true);
        Check.due("hushed", x.person(0, 3), -1);
        Check.due("hush again", x.hush(0), true);
        Check.due("both can be undone", x.count(9), 5);
    }

    private static void walk() {
        SnapWed x = Check.in(TOWN);
        Check.due("he is there", x.walk(0, 0), false);
        Check.due("walk", x.walk(0, 1), true);
        Check.due("place", x.person(0, 1), 1);
        Check.due("he is there", x.walk(0, 1), false);
        for (int bad : new int[] {-1, 4, MIN, MAX}) {
            Check.due("nobody walks", x.walk(bad, 0), false);
            Check.due("to nowhere", x.walk(0, bad == 4 ? 2 : bad), false);
        }
        Check.due("one can be undone", x.count(9), 1);
    }

    private static void moment() {
        SnapWed x = Check.in(TOWN + "person e deaf at p shy 0;person f plain at p shy 0;kept b c;");
        Check.due("silence", x.moment(), 0);
        Check.due("moments", x.count(3), 1);
        saysAll(x, 0, 0, 1, 2, 3, 4);
        x.say(5, 1);
        Check.due("a with b and c; b and c are kept, d is elsewhere, e is deaf, f says another", x.moment(), 0b11);
        Check.due("wed", x.count(4), 0b11);
        Check.due("of a", x.person(0, 5), 0b110);
        Check.due("of b", x.person(1, 5), 1);
        Check.due("nobody is to say anything", x.person(0, 3), -1);
        Check.due("nothing is said of itself", x.moment(), 0);
        saysAll(x, 1, 0, 1, 5);
        Check.due("only those not wed yet", x.moment(), 1 << 4 | 1 << 8);
        Check.due("moments", x.count(3), 4);
        x.walk(3, 0);
        saysAll(x, 0, 3, 2);
        Check.due("c and d", x.moment(), 1 << 9);
        saysAll(x, 0, 3, 5);
        Check.due("d and f", x.moment(), 1 << 13);
    }

    private static void stammerer() {
        SnapWed x = Check.in("word w;word v;place p;person a stammer at p shy 0;person b plain at p shy 0;");
        saysAll(x, 0, 0, 1);
        Check.due("none in the first", x.person(0, 4), -1);
        Check.due("not yet", x.moment(), 0);
        Check.due("utters what he was to say", x.person(0, 4), 0);
        x.say(0, 1);
        Check.due("still", x.person(0, 4), 0);
        Check.due("to say", x.person(0, 3), 1);
        x.say(1, 0);
        Check.due("now", x.moment(), 1);
        Check.due("then the other", x.person(0, 4), 1);
        x.moment();
        Check.due("then none", x.person(0, 4), -1);
        x.say(0, 1);
        x.hush(0);
        x.moment();
        Check.due("hushed", x.person(0, 4), -1);
    }

    private static void echo() {
        SnapWed x = Check.in("word w;word v;place p;place q;person a plain at p shy 0;person b deaf at p shy 0;"
                + "person c echo at q shy 0;person d plain at q shy 0;person e echo at p shy 0;");
        Check.due("none in the first", x.person(4, 4), -1);
        x.say(0, 1);
        x.say(1, 0);
        x.moment();
        Check.due("the least number's", x.person(4, 4), 1);
        Check.due("nothing was said there", x.person(2, 4), -1);
        x.walk(0, 1);
        Check.due("whoever is there now", x.person(4, 4), 1);
        x.walk(4, 1);
        Check.due("nothing was said where he is now", x.person(4, 4), -1);
        x.walk(2, 0);
        Check.due("who comes repeats it", x.person(2, 4), 1);
        x.say(2, 0);
        Check.due("who is to say something says it", x.person(2, 4), 0);
        x.hush(2);
        x.say(1, 1);
        Check.due("the deaf don't snap", x.moment(), 0);
        Check.due("an echo goes on by the deaf and itself", x.person(2, 4), 1);
        x.walk(0, 0);
        x.say(0, 1);
        Check.due("a and the echo", x.moment(), 1 << 1);
        Check.due("at the other place", x.person(4, 4), -1);
        x.walk(0, 1);
        x.moment();
        Check.due("by itself alone", x.person(2, 4), 1);
        x.walk(2, 1);
        x.moment();
        Check.due("what is gone from a place", x.person(2, 4), -1);
    }

    private static int price(String law, String likes) {
        SnapWed x = Check.in("word w;place p;person a plain at p shy 0;person b plain at p shy 0;" + likes + law);
        saysAll(x, 0, 0, 1);
        Check.due("wed by " + law, x.moment(), 1);
        return x.part(1, 0);
    }

    private static void laws() {
        String likes = "likes a b 4;likes b a 7;";
        Check.due("untold", price("", likes), 12);
        Check.due("untold, 0", price("", ""), 1);
        Check.due("liking", price("parts liking;", likes), 4);
        Check.due("back", price("parts back;", likes), 7);
        Check.due("wives", price("parts wives;", likes), 2);
        Check.due("0 at least", price("parts liking - back;", likes), 0);
        Check.due("999 at most", price("parts 1000;", likes), 999);
        Check.due("999", price("parts 999;", likes), 999);
        Check.due("from the left", price("parts 9 - 3 - 2;", likes), 4);
        Check.due("products first", price("parts 2 + 3 * 4;", likes), 14);
        Check.due("brackets", price("parts (2 + 3) * 4;", likes), 20);
        Check.due("and as left as or", price("parts 1 or 1 and 0;", likes), 0);
        Check.due("and", price("parts 5 and 7;", likes), 1);
        Check.due("or", price("parts 0 or 7;", likes), 1);
        Check.due("or", price("parts 7 or 0;", likes), 1);
        Check.due("or", price("parts 0 or 0;", likes), 0);
        Check.due("or of what is below 0", price("parts 0 or 0 - 1;", likes), 1);
        Check.due("and", price("parts 0 and 1;", likes), 0);
        Check.due("and", price("parts 1 and 0;", likes), 0);
        Check.due("not", price("parts not 7;", likes), 0);
        Check.due("not 0", price("parts not 0;", likes), 1);
        Check.due("not binds a part", price("parts not 0 + 5;", likes), 6);
        Check.due("less", price("parts 1 < 2;", likes), 1);
        Check.due("not less", price("parts 2 < 2;", likes), 0);
        Check.due("equal", price("parts 1 + 1 = 2;", likes), 1);
        Check.due("less of sums", price("parts 1 + 1 < 2 * 2 and 3 = 3;", likes), 1);
        Check.due("not of negative", price("parts not (1 - 2) + 3;", likes), 3);
        Check.due("wraps", price("parts 9999 * 9999 * 22 < 0;", likes), 1);
        Check.due("wraps to", price("parts 4096 * 4096 * 256 + 17;", likes), 17);
        Check.due("the deepest row of held values",
                price("parts " + "0 or 0 = 1 - 1 * (".repeat(4) + "0 or 0 = 1 - 1 * 1" + "))));", likes), 1);
        SnapWed never = Check.in("word w;place p;person a plain at p shy 0;person b plain at p shy 0;counts 0;");
        saysAll(never, 0, 0, 1);
        Check.due("what doesn't count", never.moment(), 0);
        SnapWed less = Check.in("word w;place p;person a plain at p shy 0;person b plain at p shy 0;counts 0 - 1;");
        saysAll(less, 0, 0, 1);
        Check.due("what is not 0 is so", less.moment(), 1);
        SnapWed once = Check.in(TOWN + "counts wives = 0;");
        saysAll(once, 0, 0, 1, 2);
        Check.due("as all is then", once.moment(), 1);
        SnapWed lesser = Check.in(TOWN + "likes a b 3;likes c a 3;likes b c 3;counts liking = 3;");
        saysAll(lesser, 0, 0, 1, 2);
        Check.due("the lesser one's liking", lesser.moment(), 1 | 1 << 5);
    }

    private static void part() {
        SnapWed x = Check.in(TOWN + "likes a b 2;parts wives * 10 + liking;");
        saysAll(x, 0, 0, 1, 2);
        Check.due("all three", x.moment(), 0b100011);
        Check.due("not wed", x.part(0, 3), -1);
        Check.due("the same", x.part(0, 0), -1);
        for (int bad : new int[] {-1, 4, MIN, MAX}) {
            Check.due("nobody", x.part(bad, 0), -1);
            Check.due("nobody", x.part(0, bad), -1);
        }
        Check.due("nothing done", x.count(9), 4);
        Check.due("each is wed to two", x.part(1, 0), 42);
        Check.due("no more", x.two(0, 1, 0), false);
        Check.due("no more", x.part(0, 1), -1);
        Check.due("three now", x.part(1, 2), 30);
        Check.due("two now", x.part(2, 0), 20);
        Check.due("paid", x.count(6), 92);
        Check.due("none wed", x.count(4), 0);
        saysAll(x, 0, 0, 1);
        Check.due("wed anew", x.moment(), 1);
    }

    private static void keep() {
        SnapWed x = Check.in(TOWN + "kept a b;");
        Check.due("they have one", x.keep(0, 1), false);
        Check.due("they have one", x.keep(1, 0), false);
        Check.due("the same", x.keep(2, 2), false);
        for (int bad : new int[] {-1, 4, MIN, MAX}) {
            Check.due("nobody", x.keep(bad, 0), false);
            Check.due("nobody", x.keep(0, bad), false);
        }
        saysAll(x, 0, 0, 2);
        x.moment();
        Check.due("keep the wed", x.keep(2, 0), true);
        Check.due("they stay so", x.count(4), 0b10);
        Check.due("dispensations", x.count(5), 0b11);
        Check.due("part", x.part(0, 2), 1);
        saysAll(x, 0, 0, 2);
        Check.due("kept now", x.moment(), 0);
        Check.due("keep elsewhere", x.keep(3, 0), true);
        Check.due("dispensations", x.count(5), 0b111);
    }

    private static void undo() {
        SnapWed x = Check.in(TOWN + "person e echo at p shy 0;person f stammer at p shy 0;");
        x.say(0, 1);
        x.say(0, 0);
        x.undo();
        Check.due("say", x.person(0, 3), 1);
        x.hush(0);
        x.undo();
        Check.due("hush", x.person(0, 3), 1);
        x.walk(0, 1);
        x.undo();
        Check.due("walk", x.person(0, 1), 0);
        saysAll(x, 1, 1, 5);
        x.moment();
        Check.due("echo", x.person(4, 4), 1);
        Check.due("stammerer", x.person(5, 4), 1);
        Check.due("heard", x.hear(0), true);
        Check.due("moment", x.undo(), true);
        Check.due("moment", x.count(3), 0);
        Check.due("wed no more", x.count(4), 0);
        Check.due("to say again", x.person(1, 3), 1);
        Check.due("echo", x.person(4, 4), -1);
        Check.due("stammerer", x.person(5, 4), -1);
        Check.due("what was heard stays", x.count(8), 1);
        x.moment();
        x.part(0, 1);
        x.undo();
        Check.due("part", x.count(4), 1);
        Check.due("paid", x.count(6), 0);
        x.keep(0, 2);
        x.undo();
        Check.due("keep", x.count(5), 0);
        for (int i = 0; i < 40; i++) {
            x.moment();
        }
        Check.due("16 at most", x.count(9), 16);
        for (int i = 0; i < 16; i++) {
            Check.due("undo " + i, x.undo(), true);
            Check.due("moment " + i, x.count(3), 40 - i);
            Check.due("left", x.count(9), 15 - i);
        }
        Check.due("no more", x.undo(), false);
        Check.due("where it stops", x.count(3), 25);
        x.moment();
        Check.due("again one", x.count(9), 1);
    }

    // ---- 16 to 18

    private static void judged() {
        SnapWed x = Check.in(TOWN + "kept c d;");
        Check.due("no day", x.judged(0), -1);
        Check.due("no day", x.judged(1), -1);
        Check.due("no day", x.judged(2), 0);
        saysAll(x, 0, 0, 1);
        x.moment();
        x.walk(0, 1);
        Check.day(x, "say a w;say b w;moment;say a w;say c w;moment;moment;part a b;moment;");
        Check.due("from the begin", x.judged(0), -1);
        Check.due("bigamy", x.judged(1), 5);
        Check.due("how many pairs at last", x.judged(2), 1);
        Check.due("now is as it was", x.count(4), 1);
        Check.due("now is as it was", x.person(0, 1), 1);
        Check.day(x, "moment;walk a p;part a b;keep c d;");
        Check.due("he is there", x.judged(0), 1);
        Check.due("no bigamy", x.judged(1), -1);
        Check.day(x, "hush a;part a b;walk a q;");
        Check.due("not wed", x.judged(0), 1);
        Check.day(x, "walk a q;walk a p;keep a b;keep b a;");
        Check.due("they have one", x.judged(0), 3);
        Check.day(x, "keep d c;");
        Check.due("they have one from the begin", x.judged(0), 0);
        Check.day(x, "say a w;say b w;hush b;say b v;say c w;moment;");
        Check.due("the last say counts", x.judged(2), 1);
        Check.day(x, "say a w;say b w;say c w;moment;");
        Check.due("three pairs", x.judged(2), 3);
        Check.day(x, "say a w;say b v;say c v;walk d p;say d w;moment;");
        Check.due("two pairs", x.judged(2), 2);
        Check.day(x, "say a w;say b w;hush b;moment;");
        Check.due("hushed", x.judged(2), 0);
        Check.day(x, "keep a b;keep a c;keep b c;say a w;say b w;say c w;moment;keep b a;");
        Check.due("all are kept", x.judged(2), 0);
        Check.due("but the last", x.judged(0), 7);
        Check.day(x, "say a w;say b w;say c w;moment;part a b;part a c;part b c;moment;");
        Check.due("behind the moment", x.judged(1), 3);
        Check.due("none at last", x.judged(2), 0);
        for (int what : new int[] {-1, 3, MIN, MAX}) {
            Check.due("what", x.judged(what), -2);
        }
        SnapWed free = Check.in(TOWN + "parts 0;");
        Check.day(free, "say a w;say b w;moment;part b a;part a b;");
        Check.due("parted for nothing, but not twice", free.judged(0), 4);
        Check.due("none at last", free.judged(2), 0);
        Check.due("nothing paid", x.count(6), 0);
    }

    private static void bigamistsAndMend() {
        SnapWed x = Check.in(TOWN + "likes a b 5;");
        Check.due("none", x.bigamists(), 0);
        saysAll(x, 0, 0, 1);
        x.moment();
        Check.due("one each", x.bigamists(), 0);
        Check.due("nothing to mend", x.mend(0), 0);
        Check.due("nothing to mend", x.mend(1), 0);
        saysAll(x, 0, 0, 2);
        x.moment();
        Check.due("a", x.bigamists(), 1);
        Check.due("the cheaper", x.mend(0), 1);
        Check.due("a and c", x.mend(1), 0b10);
        saysAll(x, 0, 1, 2);
        x.moment();
        Check.due("all three", x.bigamists(), 0b111);
        Check.due("two are to part", x.mend(0), 2);
        Check.due("all but a and b", x.mend(1), 0b100010);
        Check.due("nothing is done", x.count(4), 0b100011);
        for (int what : new int[] {-1, 2, MIN, MAX}) {
            Check.due("what", x.mend(what), -1);
        }
        SnapWed free = Check.in(TOWN + "parts 0;");
        saysAll(free, 0, 0, 1, 2);
        free.moment();
        Check.due("nothing paid", free.mend(0), 0);
        Check.due("the fewest, the least set", free.mend(1), 0b11);
        SnapWed line = Check.in(TOWN + "parts liking;likes a b 1;likes b c 3;likes c d 1;");
        line.walk(3, 0);
        saysAll(line, 0, 0, 1);
        line.moment();
        saysAll(line, 0, 1, 2);
        line.moment();
        saysAll(line, 0, 2, 3);
        line.moment();
        Check.due("a line of four", line.count(4), 1 | 1 << 5 | 1 << 9);
        Check.due("the ends are cheaper together", line.mend(0), 2);
        Check.due("the ends", line.mend(1), 1 | 1 << 9);
        SnapWed equal = Check.in(TOWN + "parts liking;likes a b 1;likes b c 2;likes c d 1;");
        equal.walk(3, 0);
        saysAll(equal, 0, 0, 1);
        equal.moment();
        saysAll(equal, 0, 1, 2);
        equal.moment();
        saysAll(equal, 0, 2, 3);
        equal.moment();
        Check.due("as much", equal.mend(0), 2);
        Check.due("the fewest", equal.mend(1), 1 << 5);
    }

    // ---- 19 to 23

    private static void chance() {
        SnapWed x = Check.in("word w;word v;place p;place q;person a plain at p shy 2;person b stammer at p shy 0;"
                + "person c echo at p shy 0;person d deaf at p shy 0;person e plain at p shy 9;person f plain at q shy 0;"
                + "says a w 1;says b w 1;says b v 2;says c w 7;says d w 1;says f w 1;kept b c;counts 0;");
        Check.due("1 of 3, 1 of 3", x.chance(0, 1), 111111);
        Check.due("the other way", x.chance(1, 0), 111111);
        Check.due("echoes like others; what counts is no matter", x.chance(0, 2), 333333);
        Check.due("deaf", x.chance(0, 3), 0);
        Check.due("shy alone", x.chance(0, 4), 0);
        Check.due("elsewhere", x.chance(0, 5), 0);
        Check.due("kept", x.chance(1, 2), 0);
        x.walk(5, 0);
        Check.due("sure", x.chance(2, 5), 1000000);
        Check.due("the same", x.chance(0, 0), -1);
        for (int bad : new int[] {-1, 6, MIN, MAX}) {
            Check.due("nobody", x.chance(bad, 0), -1);
            Check.due("nobody", x.chance(0, bad), -1);
        }
        SnapWed wed = Check.in(TOWN + "says a w 1;says b w 1;says a v 1;says b v 2;");
        Check.due("3 of 6", wed.chance(0, 1), 500000);
        saysAll(wed, 0, 0, 1);
        wed.moment();
        Check.due("wed", wed.chance(0, 1), 0);
        Check.due("neither odds nor shy", wed.chance(0, 2), 0);
    }

    private static void withinAndHalf() {
        SnapWed x = Check.in(TOWN + "says a w 1;says a v 9;says b w 1;says c v 1;says d w 9;says d v 1;"
                + "person e plain at q shy 9;says e v 1;person f plain at p shy 0;says f v 4;");
        Check.due("a tenth", x.within(0, 1, 1), 100000);
        Check.due("a tenth twice", x.within(0, 1, 2), 190000);
        Check.due("cut each time", x.within(0, 1, 9), 1000000 - 387419);
        Check.due("half", x.half(0, 1), 7);
        Check.due("sure at once", x.half(2, 5), 1);
        Check.due("a hundredth", x.chance(3, 4), 10000);
        Check.due("half of a hundredth", x.half(3, 4), 69);
        Check.due("nine tenths", x.half(0, 2), 1);
        Check.due("never", x.half(0, 3), -1);
        Check.due("never", x.within(0, 3, 9), 0);
        for (int bad : new int[] {-1, 0, 10, MIN, MAX}) {
            Check.due("moments", x.within(0, 1, bad), -1);
        }
        Check.due("the same", x.within(1, 1, 1), -1);
        Check.due("the same", x.half(1, 1), -1);
        for (int bad : new int[] {-1, 6, MIN, MAX}) {
            Check.due("nobody", x.within(bad, 1, 1), -1);
            Check.due("nobody", x.within(1, bad, 1), -1);
            Check.due("nobody", x.half(bad, 1), -1);
            Check.due("nobody", x.half(1, bad), -1);
        }
        String rare = "word w;word v;place p;person a plain at p shy 9;person b plain at p shy 9;says a w 1;says b w 1;";
        Check.due("a hundredth", Check.in(rare).half(0, 1), 69);
        SnapWed rarer = Check.in(rare + "says a v 9;person c plain at p shy 9;says c w 1;word u;says c u 9;");
        Check.due("1 of 361 and so", rarer.chance(0, 2), 2770);
        Check.due("not by 200", rarer.half(0, 2), -1);
        Check.due("1 of 190", rarer.half(1, 2), 132);
        String words = "word w;word v;word u;word t;place p;person a plain at p shy 9;person b plain at p shy 9;";
        SnapWed latest = Check.in(words + "says a w 1;says a v 7;says b w 1;says b u 7;");
        Check.due("1 of 289", latest.chance(0, 1), 3460);
        Check.due("by 200", latest.half(0, 1), 200);
        SnapWed later = Check.in(words + "says a w 1;says b w 1;says b v 9;says b u 9;says b t 1;");
        Check.due("1 of 290", later.chance(0, 1), 3448);
        Check.due("by 201", later.half(0, 1), -1);
        SnapWed exact = Check.in(TOWN + "says a w 1;says a v 1;says b w 1;");
        Check.due("just half", exact.half(0, 1), 1);
    }

    private static void safest() {
        SnapWed x = Check.in(TOWN + "says a w 1;says a v 1;says b w 1;says b v 2;says c w 2;says c v 1;says d w 9;");
        Check.due("equal: the first", x.safest(0), 0);
        x.keep(0, 2);
        Check.due("b alone", x.safest(0), 0);
        x.undo();
        x.keep(0, 1);
        Check.due("c alone", x.safest(0), 1);
        x.walk(0, 1);
        Check.due("d alone", x.safest(0), 1);
        Check.due("only what he may say", x.safest(3), 0);
        SnapWed mute = Check.in(TOWN + "says a w 3;");
        Check.due("may say nothing", mute.safest(1), -1);
        for (int bad : new int[] {-1, 4, MIN, MAX}) {
            Check.due("nobody", mute.safest(bad), -1);
        }
        SnapWed cut = Check.in(TOWN + "person e plain at p shy 2;person f plain at p shy 2;word u;"
                + "says a w 1;says a u 1;says b w 1;says b v 2;says c w 1;says c v 2;says e w 1;says f u 1;");
        Check.due("three cut thirds are more than one", cut.safest(0), 2);
        SnapWed each = Check.in("word w;word v;place p;person a plain at p shy 0;person b plain at p shy 2;"
                + "person c plain at p shy 2;person d plain at p shy 2;person e plain at p shy 0;"
                + "says a v 1;says a w 1;says b w 1;says c w 1;says d w 1;says e v 1;");
        Check.due("each cut: 999999 is less than 1000000", each.safest(0), 0);
    }

    private static void haven() {
        SnapWed x = Check.in(TOWN + "place r;says a w 1;says b w 1;says d w 1;");
        Check.due("nobody is there", x.haven(0), 2);
        x.walk(3, 2);
        Check.due("he is gone", x.haven(0), 1);
        x.walk(0, 1);
        Check.due("he is there", x.haven(0), 1);
        Check.due("who says nothing is safe at the first", x.haven(2), 0);
        Check.due("nothing moved", x.person(0, 1), 1);
        for (int bad : new int[] {-1, 4, MIN, MAX}) {
            Check.due("nobody", x.haven(bad), -1);
        }
        SnapWed sum = Check.in(TOWN + "says a w 1;says a v 1;says b w 1;says b v 3;says c w 1;says c v 3;says d w 1;");
        Check.due("twice a half is more than a half", sum.haven(0), 1);
        SnapWed deaf = Check.in("word w;place p;place q;person a deaf at q shy 0;person b plain at p shy 0;says a w 1;"
                + "says b w 1;");
        Check.due("the deaf are safe", deaf.haven(0), 0);
        Check.due("from the deaf too", deaf.haven(1), 0);
    }

    // ---- 24 to 28

    private static void matches() {
        SnapWed x = Check.in(TOWN + "likes a b 2;likes b a 1;likes b d 2;likes d b 1;");
        Check.due("b and d, elsewhere or not; a and c alone or together", x.matches(-1), 2);
        int[] first = {0, 3, 2, 1};
        for (int p = 0; p < 4; p++) {
            Check.due("first", x.matches(p), first[p]);
        }
        saysAll(x, 0, 0, 1);
        x.moment();
        Check.due("wed is of no matter", x.matches(1), 3);
        x.keep(1, 3);
        Check.due("kept", x.matches(1), 0);
        Check.due("c and d", x.matches(-1), 2);
        for (int bad : new int[] {-2, 4, MIN, MAX}) {
            Check.due("nobody", x.matches(bad), -2);
        }
        SnapWed none = Check.in(TOWN + "likes a b 2;likes b c 2;likes c a 2;likes a c 1;likes b a 1;likes c b 1;kept a d;"
                + "kept b d;kept c d;");
        Check.due("three who run round", none.matches(-1), 0);
        Check.due("no match", none.matches(0), -2);
        Check.due("no match", none.matches(3), -2);
        Check.due("nobody", none.matches(4), -2);
        SnapWed calm = Check.in(TOWN);
        Check.due("all ways of four", calm.matches(-1), 10);
        Check.due("alone is first", calm.matches(3), 3);
        SnapWed six = Check.in(TOWN + "person e plain at p shy 0;person f plain at p shy 0;");
        Check.due("all ways of six", six.matches(-1), 76);
        SnapWed deaf = Check.in("place p;person a plain at p shy 0;person b deaf at p shy 0;likes a b 9;likes b a 9;");
        Check.due("the deaf are alone", deaf.matches(-1), 1);
        Check.due("the deaf are alone", deaf.matches(0), 0);
        String three = "place p;person a plain at p shy 0;person b plain at p shy 0;person c plain at p shy 0;";
        SnapWed even = Check.in(three + "likes a b 2;likes b a 5;likes a c 2;likes c a 5;");
        Check.due("a likes both as much: with b, with c", even.matches(-1), 2);
        Check.due("the first has c alone", even.matches(2), 2);
        SnapWed even2 = Check.in(three + "likes b c 2;likes c b 5;likes a c 5;likes c a 5;");
        Check.due("c likes both as much: with a, with b", even2.matches(-1), 2);
        Check.due("the first has a alone", even2.matches(0), 0);
        SnapWed one = Check.in("place p;person a plain at p shy 0;person b plain at p shy 0;likes a b 9;");
        Check.due("both must like more", one.matches(-1), 2);
    }

    private static void code() {
        SnapWed x = Check.in(TOWN + "word u;says a w 1;says b w 1;says c w 1;says a v 1;says b v 1;says d v 1;says d u 2;"
                + "says a u 1;");
        Check.due("v, for d is elsewhere", x.code(0, 1), 1);
        Check.due("w is b's too", x.code(0, 2), -1);
        Check.due("at a's place b may", x.code(0, 3), 2);
        Check.due("at d's place nobody else may", x.code(3, 0), 1);
        Check.due("nothing for both", x.code(2, 3), -1);
        Check.due("the same", x.code(0, 0), -1);
        for (int bad : new int[] {-1, 4, MIN, MAX}) {
            Check.due("nobody", x.code(bad, 0), -1);
            Check.due("nobody", x.code(0, bad), -1);
        }
    }

    private static void may() {
        SnapWed x = Check.in(TOWN + "says a w 1;says c w 1;says d w 1;says c v 9;");
        Check.due("a and c", x.may(0, 0), 0b101);
        Check.due("d", x.may(1, 0), 0b1000);
        Check.due("none", x.may(1, 1), 0);
        x.walk(2, 1);
        Check.due("c walked", x.may(1, 1), 0b100);
        for (int bad : new int[] {-1, 2, MIN, MAX}) {
            Check.due("nowhere", x.may(bad, 0), -1);
            Check.due("nothing", x.may(0, bad), -1);
        }
    }

    private static void rota() {
        SnapWed x = Check.in("word w;word v;word u;place p;place q;place r;person a plain at p shy 0;"
                + "person b plain at p shy 0;person c plain at p shy 0;person d plain at p shy 0;person e plain at q shy 0;"
                + "person f deaf at p shy 0;says a w 1;says b w 1;says b v 1;says c v 1;says c u 1;says d u 1;says f w 1;");
        Check.due("two moments", x.rota(0, -1), 2);
        int[] first = {0, 1, 0, 1, -1, 0};
        for (int p = 0; p < 6; p++) {
            Check.due("when " + p, x.rota(0, p), first[p]);
        }
        Check.due("one alone", x.rota(1, -1), 1);
        Check.due("one alone", x.rota(1, 4), 0);
        Check.due("nobody is there", x.rota(2, -1), 0);
        Check.due("nobody is there", x.rota(2, 0), -1);
        for (int bad : new int[] {-1, 3, MIN, MAX}) {
            Check.due("nowhere", x.rota(bad, 0), -2);
            Check.due("nowhere", x.rota(bad, -1), -2);
        }
        for (int bad : new int[] {-2, 6, MIN, MAX}) {
            Check.due("nobody", x.rota(0, bad), -2);
        }
        x.keep(0, 1);
        Check.due("kept: the first row", x.rota(0, 1), 0);
        SnapWed path = Check.in("word w;word v;word u;place p;person a plain at p shy 0;person b plain at p shy 0;"
                + "person c plain at p shy 0;person d plain at p shy 0;says a w 1;says c w 1;says c v 1;says d v 1;"
                + "says d u 1;says b u 1;");
        Check.due("greedy would take three", path.rota(0, -1), 2);
        int[] row = {0, 1, 1, 0};
        for (int p = 0; p < 4; p++) {
            Check.due("row " + p, path.rota(0, p), row[p]);
        }
        StringBuilder all = new StringBuilder("word w;place p;");
        for (char c = 'a'; c < 'g'; c++) {
            all.append("person ").append(c).append(" plain at p shy 0;says ").append(c).append(" w 1;");
        }
        SnapWed six = Check.in(all.toString());
        Check.due("all clash", six.rota(0, -1), 6);
        Check.due("the last", six.rota(0, 5), 5);
        Check.due("company of one", six.company(0), 1);
        saysAll(six, 0, 0, 1, 2, 3, 4, 5);
        six.moment();
        Check.due("all are wed", six.rota(0, -1), 1);
        Check.due("all are safe", six.company(0), 63);
    }

    private static void company() {
        SnapWed x = Check.in(TOWN + "says a w 1;says b w 1;says b v 1;says c v 1;says d w 1;");
        Check.due("a and c", x.company(0), 0b101);
        Check.due("d", x.company(1), 0b1000);
        x.walk(3, 0);
        Check.due("of equal ones the least", x.company(0), 0b101);
        x.walk(2, 1);
        Check.due("one of three", x.company(0), 1);
        x.walk(0, 1);
        x.walk(1, 1);
        x.walk(3, 1);
        Check.due("nobody is there", x.company(0), 0);
        for (int bad : new int[] {-1, 2, MIN, MAX}) {
            Check.due("nowhere", x.company(bad), -1);
        }
    }

    // ---- 29 to 32

    private static void hearing() {
        SnapWed x = Check.in(TOWN + "says a w 1;says b w 1;says b v 1;person e plain at p shy 3;says e v 1;");
        Check.due("nothing heard", x.who(), 0b11111);
        for (int bad : new int[] {-2, 2, MIN, MAX}) {
            Check.due("nothing", x.hear(bad), false);
        }
        Check.due("v", x.hear(1), true);
        Check.due("b and e", x.who(), 0b10010);
        Check.due("none", x.hear(-1), true);
        Check.due("e is shy", x.who(), 0b10000);
        Check.due("w", x.hear(0), true);
        Check.due("nobody", x.who(), 0);
        Check.due("nobody", x.likely(), -1);
        Check.due("nobody to part", x.ask(), -2);
        Check.due("4", x.hear(0), true);
        Check.due("5", x.hear(0), true);
        Check.due("5 there are", x.hear(0), false);
        Check.due("5 there are", x.hear(-1), false);
        Check.due("heard", x.count(8), 5);
        Check.due("can't be undone", x.count(9), 0);
        SnapWed mute = Check.in(TOWN + "says a w 1;");
        mute.hear(-1);
        Check.due("no odds at all", mute.who(), 0b1110);
    }

    private static void likely() {
        SnapWed x = Check.in(TOWN + "says a w 1;says a v 1;says b w 2;says b v 1;says c w 4;says c v 2;person e plain at p shy 9;");
        Check.due("of equal ones the first", x.likely(), 0);
        x.hear(0);
        Check.due("two thirds", x.likely(), 1);
        x.hear(1);
        Check.due("a quarter is more than two ninths", x.likely(), 0);
        x.hear(0);
        Check.due("4 of 27 is more than an eighth", x.likely(), 1);
        SnapWed mute = Check.in(TOWN + "person e plain at p shy 9;says e w 1;");
        mute.hear(-1);
        Check.due("who has neither says none", mute.likely(), 0);
        SnapWed shy = Check.in("word w;place p;person a plain at p shy 8;person b plain at p shy 9;says a w 9;says b w 9;"
                + "person c plain at p shy 9;");
        for (int i = 0; i < 5; i++) {
            shy.hear(-1);
            Check.due("c is silent for sure", shy.likely(), 2);
        }
        Check.due("all may be silent", shy.who(), 0b111);
        SnapWed close = Check.in("word w;place p;person a plain at p shy 8;person b plain at p shy 9;says a w 9;says b w 9;");
        for (int i = 0; i < 5; i++) {
            close.hear(-1);
        }
        Check.due("9 of 18 is more than 8 of 17", close.likely(), 1);
    }

    private static void ask() {
        SnapWed x = Check.in(TOWN + "word u;says a w 1;says b w 1;says b v 1;says c v 1;says c u 1;says d u 1;");
        Check.due("w: two and two; none: nobody may", x.ask(), 0);
        x.hear(0);
        Check.due("v parts a and b", x.ask(), 1);
        x.hear(1);
        Check.due("b alone", x.ask(), -2);
        SnapWed alike = Check.in(TOWN + "says a w 1;says b w 2;says c w 3;says d w 4;");
        Check.due("none parts them", alike.ask(), -2);
        SnapWed shy = Check.in("word w;place p;person a plain at p shy 1;person b plain at p shy 0;says a w 1;says b w 1;");
        Check.due("none parts them", shy.ask(), -1);
        SnapWed uneven = Check.in(TOWN + "says a w 1;says b w 1;says c w 1;says a v 1;says b v 1;says d w 1;");
        Check.due("the greater number is the least", uneven.ask(), 1);
    }

    // ---- 33 to 36

    private static int restsOf(SnapWed x, int gets, int loses, int what) {
        try {
            return x.rests(gets, loses, what);
        } catch (NoSuchElementException e) {
            return THROWS;
        }
    }

    private static void rests() {
        SnapWed x = new SnapWed();
        Check.due("how many", restsOf(x, 9, 9, -1), 4);
        int[] alike = {0, 5, 10, 15};
        for (int i = 0; i < 4; i++) {
            Check.due("rest " + i, restsOf(x, 3, 1, i), alike[i]);
        }
        Check.due("none such", restsOf(x, 3, 1, 4), THROWS);
        Check.due("nothing to lose", restsOf(x, 3, 0, -1), 4);
        Check.due("nothing to lose: 15", restsOf(x, 3, 0, 3), 15);
        Check.due("nothing to get", restsOf(x, 0, 3, -1), 4);
        Check.due("nothing at all", restsOf(x, 0, 0, -1), 16);
        for (int i = 0; i < 16; i++) {
            Check.due("all " + i, restsOf(x, 0, 0, i), i);
        }
        Check.due("none such", restsOf(x, 0, 0, 16), THROWS);
        for (int bad : new int[] {-1, 10, MIN, MAX}) {
            Check.due("gets", restsOf(x, bad, 1, -1), THROWS);
            Check.due("loses", restsOf(x, 1, bad, -1), THROWS);
        }
        for (int bad : new int[] {-2, MIN, MAX}) {
            Check.due("what", restsOf(x, 1, 1, bad), THROWS);
        }
    }

    private static void generations() {
        SnapWed x = Check.in("word w;word v;place p;place q;person a plain at p shy 1;person b plain at p shy 1;"
                + "says a w 1;says b w 1;");
        // Seed 1: 16838, 5758, 10113, 17515 modulo 2: both say w (0 is below 1), b (1) walks to q (1).
        Check.due("b walks away first", x.generations(1, 1, 0), 0);
        // Then 31051, 5627, 23010, 7419: both are silent, a (0) walks to q.
        Check.due("silence", x.generations(1, 2, 0), 0);
        // Then 16212, 4086, 2749, 12767: both say w, b stays at q, a is there too.
        Check.due("wed in the third", x.generations(1, 3, 0), 1);
        Check.due("one moment", x.generations(1, 3, 2), 1);
        Check.due("no bigamists", x.generations(1, 3, 1), 0);
        Check.due("all is as ahead", x.count(3), 0);
        Check.due("all is as ahead", x.person(1, 1), 0);
        Check.due("nothing to undo", x.count(9), 0);
        for (int bad : new int[] {-1, 10000, MIN, MAX}) {
            Check.due("seed", x.generations(bad, 1, 0), -1);
        }
        for (int bad : new int[] {-1, 0, 61, MIN, MAX}) {
            Check.due("moments", x.generations(1, bad, 0), -1);
        }
        for (int bad : new int[] {-1, 3, MIN, MAX}) {
            Check.due("what", x.generations(1, 1, bad), -1);
        }
        Check.due("edges", x.generations(9999, 60, 0), 1);
        Check.due("edges", x.generations(0, 60, 2), 1);
        // Seed 1 by 3: 16838 is 2, 5758 is 1: a says u, b says v; by 4 and 1: 10113 is 1, 17515 is 0.
        SnapWed sums = Check.in("word w;word v;word u;place p;person a plain at p shy 0;person b plain at p shy 0;"
                + "says a w 1;says a v 1;says a u 1;says b w 1;says b v 2;person c plain at p shy 0;"
                + "person d plain at p shy 0;");
        sums.say(2, 1);
        sums.say(3, 2);
        Check.due("a with d, b with c", sums.generations(1, 1, 0), 2);
        sums.hush(2);
        Check.due("a with d", sums.generations(1, 1, 0), 1);
        sums.say(3, 0);
        Check.due("nobody says w", sums.generations(1, 1, 0), 0);
        sums.say(3, 1);
        Check.due("b with d", sums.generations(1, 1, 0), 1);
        SnapWed hand = Check.in("word w;place p;person a plain at p shy 0;person b plain at p shy 0;says a w 1;");
        hand.say(1, 0);
        Check.due("who draws nothing says what he is to say", hand.generations(5, 1, 0), 1);
        SnapWed three = Check.in("word w;place p;person a plain at p shy 0;person b plain at p shy 0;says a w 1;says b w 1;"
                + "person c plain at p shy 0;says c w 1;");
        Check.due("three pairs", three.generations(7, 5, 0), 3);
        Check.due("three bigamists", three.generations(7, 5, 1), 3);
        Check.due("in one moment", three.generations(7, 5, 2), 1);
        saysAll(three, 0, 0, 1);
        three.moment();
        Check.due("those wed ahead are not wed by these", three.generations(7, 5, 0), 2);
        Check.due("but are bigamists", three.generations(7, 5, 1), 3);
    }

    private static void mark() {
        SnapWed x = Check.in(TOWN + "person e echo at p shy 0;person f stammer at p shy 0;");
        for (int bad : new int[] {-1, 4, MIN, MAX}) {
            Check.due("no such mark", x.mark(bad, false), false);
            Check.due("no such mark", x.mark(bad, true), false);
        }
        saysAll(x, 0, 0, 1, 5);
        x.moment();
        x.part(0, 1);
        x.keep(0, 3);
        x.say(2, 1);
        x.walk(3, 0);
        x.hear(1);
        Check.due("laid", x.mark(3, false), true);
        Check.due("undo stays", x.count(9), 8);
        saysAll(x, 1, 0, 1, 5);
        x.moment();
        x.part(0, 1);
        x.keep(0, 2);
        x.walk(3, 1);
        x.walk(1, 1);
        x.hear(0);
        Check.day(x, "moment;");
        Check.due("nothing is on it", x.mark(0, true), false);
        for (int i = 0; i < 2; i++) {
            Check.due("back", x.mark(3, true), true);
            Check.due("moment", x.count(3), 1);
            Check.due("pairs", x.count(4), 0);
            Check.due("dispensations", x.count(5), 0b100);
            Check.due("paid", x.count(6), 1);
            Check.due("heard", x.count(8), 1);
            Check.due("what was heard", x.ask(), -2);
            Check.due("undo", x.count(9), 0);
            Check.due("undo", x.undo(), false);
            Check.due("to say", x.person(2, 3), 1);
            Check.due("was to say", x.person(5, 4), 0);
            Check.due("was uttered", x.person(4, 4), 0);
            Check.due("place", x.person(3, 1), 0);
            Check.due("place", x.person(1, 1), 0);
            Check.due("the day stays", x.count(7), 1);
            x.moment();
            x.walk(0, 1);
            x.hear(0);
        }
        Check.due("another on it", x.mark(3, false), true);
        x.moment();
        Check.due("back to it", x.mark(3, true), true);
        Check.due("moment", x.count(3), 2);
        Check.due("others are empty", x.mark(2, true), false);
        x.mark(0, false);
        x.moment();
        x.mark(1, false);
        x.moment();
        Check.due("the first of some", x.mark(0, true), true);
        Check.due("its moment", x.count(3), 2);
        Check.due("the last of some", x.mark(1, true), true);
        Check.due("its moment", x.count(3), 3);
        Check.due("the one ahead of these", x.mark(3, true), true);
    }

    private static void count() {
        SnapWed x = Check.in(TOWN + "kept c d;");
        for (int bad : new int[] {-1, 11, MIN, MAX}) {
            Check.due("what", x.count(bad), -1);
        }
        saysAll(x, 0, 0, 1, 2);
        x.moment();
        x.part(0, 1);
        x.hear(-1);
        Check.day(x, "moment;moment;moment;");
        x.feed(0x2020000000000000L, 0, 0);
        int[] all = {2, 2, 4, 1, 0b100010, 1 << 9, 1, 3, 1, 5, 2};
        for (int what = 0; what < all.length; what++) {
            Check.due("count(" + what + ")", x.count(what), all[what]);
        }
    }
}
