/** The language: what is read without a fault, and of what is wrong the kind and the place. */
public final class FaultsTest {
    private static final String LAND = "word ww;place pp;person aa plain at pp shy 1;person bb echo at pp shy 1;";

    private FaultsTest() {
    }

    public static void main(String[] args) {
        tokens();
        names();
        words();
        people();
        odds();
        likings();
        dispensations();
        laws();
        depths();
        tooMany();
        days();
        reading();
        readingAgain();
        Check.end("FaultsTest");
    }

    /** The sign ^ stands right ahead of the token that is wrong; it is not fed. */
    private static void province(int kind, String text) {
        SnapWed x = new SnapWed();
        int want = kind == 0 ? 0 : kind + 16 * text.indexOf('^');
        Check.due("province " + text, Check.province(x, text.replace("^", "")), want);
        Check.due("taken " + text, x.count(10), 0);
    }

    private static void afterLand(int kind, String text) {
        province(kind, LAND + text);
    }

    private static void day(int kind, String text) {
        SnapWed x = Check.in(LAND);
        int want = kind == 0 ? 0 : kind + 16 * text.indexOf('^');
        Check.due("day " + text, Check.day(x, text.replace("^", "")), want);
        Check.due("taken " + text, x.count(10), 0);
    }

    private static void tokens() {
        province(0, "");
        province(0, " \n ");
        province(0, "word abcdefgh ;");
        province(0, "word azazazaz ;");
        province(0, "word z;");
        province(1, "word ^{;");
        province(1, "word ^`;");
        province(0, "word\nabcdefgh;place p;");
        province(1, "word ^abcdefghi ;");
        province(1, "^wordword a;");
        province(1, "word ^Aa;");
        province(1, "word a^A;");
        province(1, "word ^1a;");
        province(1, "word a^1;");
        province(1, "word a^,");
        province(1, "word a^.;");
        province(1, "word a^{;");
        province(1, "word a^");
        province(1, "word a  \n ^");
        province(1, "word^");
        province(1, "^;");
        province(1, "^1");
        province(1, "word a;^;");
        province(0, "place p;person a plain at p shy 0001;");
        province(1, "place p;person a plain at p shy ^00001;");
        province(1, "place p;person a plain at p shy 1^a;");
        afterLand(0, "counts 9999;");
        afterLand(1, "counts ^10000;");
        afterLand(0, "counts 1and 2or 3;");
        afterLand(0, "says aa ww1;");
    }

    private static void names() {
        for (String word : new String[] {"word", "place", "person", "at", "shy", "says", "likes", "kept", "counts",
            "parts", "say", "hush", "walk", "part", "keep", "moment", "plain", "deaf", "stammer", "echo", "not", "and",
            "or"}) {
            province(1, "word ^" + word + ";");
            province(1, "place ^" + word + ";");
            province(1, "place p;person ^" + word + " plain at p shy 1;");
            afterLand(1, "says ^" + word);
        }
        for (String word : new String[] {"liking", "back", "wives", "count", "counted", "wed", "province", "day", "a"}) {
            province(0, "word " + word + ";");
            province(0, "place " + word + ";");
            province(0, "place p;person " + word + " plain at p shy 1;");
        }
        province(0, "word back;place liking;person wives deaf at liking shy 2;says wives back 3;");
    }

    private static void words() {
        province(3, "word a;word ^a;");
        province(3, "word a;place ^a;");
        province(3, "place a;word ^a;");
        province(3, "place a;place ^a;");
        province(3, "place a;person ^a plain at a shy 1;");
        province(3, "word a;place b;person ^a plain at b shy 1;");
        afterLand(3, "person ^aa deaf at pp shy 2;");
        afterLand(3, "word ^bb;");
        afterLand(3, "place ^bb;");
        province(1, "word a ^b;");
        province(1, "word a^(;");
    }

    private static void people() {
        afterLand(0, "person c stammer at pp shy 0;person d deaf at pp shy 9;");
        afterLand(1, "person c ^at pp shy 0;");
        afterLand(1, "person c ^mute at pp shy 0;");
        afterLand(1, "person c plain ^pp shy 0;");
        afterLand(2, "person c plain at ^qq shy 0;");
        afterLand(2, "person c plain at ^ww shy 0;");
        afterLand(2, "person c plain at ^aa shy 0;");
        afterLand(2, "person c plain at ^c shy 0;");
        afterLand(1, "person c plain at ^shy 0;");
        afterLand(1, "person c plain at pp ^0;");
        afterLand(1, "person c plain at pp shy ^pp;");
        afterLand(4, "person c plain at pp shy ^10;");
        afterLand(4, "person c plain at pp shy ^9999;");
        afterLand(1, "person c plain at pp shy ^-1;");
        afterLand(1, "person c plain at pp shy 1 ^1;");
        afterLand(1, "person c plain at pp shy^");
    }

    private static void odds() {
        afterLand(0, "says aa ww 1;says bb ww 9;");
        afterLand(2, "says ^cc ww 1;");
        afterLand(2, "says ^ww ww 1;");
        afterLand(2, "says ^pp ww 1;");
        afterLand(2, "says aa ^aa 1;");
        afterLand(2, "says aa ^pp 1;");
        afterLand(2, "says aa ^cc 1;");
        afterLand(1, "says aa ^1;");
        afterLand(1, "says ^1;");
        afterLand(4, "says aa ww ^0;");
        afterLand(4, "says aa ww ^10;");
        afterLand(1, "says aa ww ^;");
        afterLand(3, "says aa ww 1;says aa ^ww 1;");
        afterLand(3, "says aa ww 1;says bb ww 2;says aa ^ww 0;");
        afterLand(1, "says aa ww 1 ^says");
    }

    private static void likings() {
        afterLand(0, "likes aa bb 0;likes bb aa 9;");
        afterLand(3, "likes aa ^aa 1;");
        afterLand(2, "likes ^ww aa 1;");
        afterLand(2, "likes aa ^ww 1;");
        afterLand(2, "likes aa ^cc 1;");
        afterLand(3, "likes aa bb 0;likes aa ^bb 0;");
        afterLand(3, "likes aa bb 5;likes bb aa 0;likes bb ^aa 0;");
        afterLand(3, "person cc plain at pp shy 0;likes aa bb 1;likes aa cc 1;likes aa ^bb 1;");
        afterLand(4, "likes aa bb ^10;");
        afterLand(1, "likes aa bb ^cc;");
        afterLand(1, "likes aa bb 1^");
    }

    private static void dispensations() {
        afterLand(0, "kept aa bb;");
        afterLand(0, "kept bb aa;");
        afterLand(3, "kept aa ^aa;");
        afterLand(3, "kept aa bb;kept aa ^bb;");
        afterLand(3, "kept aa bb;kept bb ^aa;");
        afterLand(3, "person cc plain at pp shy 0;kept aa bb;kept aa cc;kept bb ^aa;");
        afterLand(2, "kept ^cc aa;");
        afterLand(2, "kept aa ^pp;");
        afterLand(1, "kept aa bb ^1;");
    }

    private static void laws() {
        afterLand(0, "counts liking;parts back;");
        afterLand(0, "parts wives+1*2-3<4 and not 5 or(6=7);");
        afterLand(3, "counts 1;^counts 1;");
        afterLand(3, "counts 1;parts 1;^parts 1;");
        afterLand(1, "counts ^;");
        afterLand(1, "counts ^-1;");
        afterLand(1, "counts ^aa;");
        afterLand(1, "counts ^likes;");
        afterLand(1, "counts 1 ^1;");
        afterLand(1, "counts 1 ^not 1;");
        afterLand(1, "counts 1 + ^;");
        afterLand(1, "counts 1 + ^+ 1;");
        afterLand(1, "counts 1 < 2 ^< 3;");
        afterLand(1, "counts 1 = 2 ^= 3;");
        afterLand(1, "counts 1 < 2 ^= 3;");
        afterLand(1, "counts (1 < 2 ^= 3);");
        afterLand(0, "counts (1 < 2) = 3;");
        afterLand(0, "counts 1 < 2 and 2 < 3 or 4 = 5;");
        afterLand(1, "counts (1^;");
        afterLand(1, "counts (^);");
        afterLand(1, "counts 1^);");
        afterLand(1, "counts (1^");
        afterLand(1, "counts not ^and 1;");
        afterLand(1, "counts 1 and ^or 1;");
        afterLand(1, "counts not^");
        afterLand(1, "counts 1^");
    }

    private static void depths() {
        afterLand(0, "counts not not not not 1;");
        afterLand(5, "counts not not not not not ^1;");
        afterLand(5, "counts not not not not not ^not 1;");
        afterLand(5, "counts not not not not not ^liking;");
        afterLand(0, "counts ((((1))));");
        afterLand(5, "counts (((((^1)))));");
        afterLand(5, "counts (((((^(1))))));");
        afterLand(5, "counts (((((^back)))));");
        afterLand(1, "counts (((((^)))));");
        afterLand(1, "counts (((((^and)))));");
        afterLand(1, "counts (((((^?");
        afterLand(5, "counts (not(not(^not 1)));");
        afterLand(5, "counts not(not(not ^1));");
        afterLand(0, "counts (((not 1)))+(((not 1)));");
        afterLand(0, "counts ((((1+1+1*wives<1 and 1))));");
        afterLand(5, "counts 1+((((1+not ^1))));");
    }

    private static void tooMany() {
        String five = "word a;word b;word c;word d;word e;";
        province(0, five);
        province(5, five + "^word f;");
        province(5, five + "^word;");
        province(0, "place a;place b;place c;place d;");
        province(5, "place a;place b;place c;place d;^place");
        StringBuilder people = new StringBuilder("place p;");
        for (char c = 'a'; c < 'g'; c++) {
            people.append("person ").append(c).append(" plain at p shy 0;");
        }
        province(0, people.toString());
        province(5, people + "^person a plain at p shy 0;");
        province(0, people + five.replace(" ", " w"));
    }

    private static void days() {
        day(0, "");
        day(0, "say aa ww;hush aa;walk aa pp;part aa bb;keep bb aa;moment;");
        day(1, "^word a;");
        day(1, "^says aa ww;");
        day(1, "^aa;");
        day(1, "say ^1");
        day(2, "say ^ww ww;");
        day(2, "say ^cc ww;");
        day(2, "say aa ^pp;");
        day(2, "say aa ^aa;");
        day(1, "say aa ^;");
        day(1, "say aa ww^");
        day(2, "hush ^pp;");
        day(1, "hush aa ^ww;");
        day(1, "hush ^hush;");
        day(2, "walk ^pp pp;");
        day(2, "walk aa ^ww;");
        day(2, "walk aa ^bb;");
        day(2, "part ^ww aa;");
        day(2, "part aa ^pp;");
        day(3, "part aa ^aa;");
        day(2, "keep ^cc aa;");
        day(2, "keep aa ^ww;");
        day(3, "keep bb ^bb;");
        day(1, "moment ^aa;");
        day(1, "moment^");
        day(1, "moment;^;");
        String thirty = "moment;".repeat(30);
        day(0, thirty);
        day(5, thirty + "^moment;");
        day(5, thirty + "^say");
        day(5, thirty + "^keep cc dd;");
        day(1, thirty + "^word");
        day(1, thirty + "^;");
        day(1, thirty + "^?");
        SnapWed x = new SnapWed();
        Check.due("say of nobody", Check.day(x, "say aa ww;"), 2 + 16 * 4);
        Check.due("a moment of nobody", Check.day(x, "moment;moment;"), 0);
        Check.due("lines", x.count(7), 2);
    }

    /** A fault leaves all as it was; what is right takes the place of all that was. */
    private static void reading() {
        SnapWed x = Check.in(LAND + "kept aa bb;");
        Check.due("day", Check.day(x, "say aa ww;moment;"), 0);
        x.say(0, 0);
        x.moment();
        x.hear(0);
        x.mark(2, false);
        Check.due("fault", Check.province(x, "word w;word w;"), 3 + 16 * 12);
        int[] stays = {1, 1, 2, 1, 0, 1, 0, 2, 1, 2, 0};
        for (int what = 0; what < stays.length; what++) {
            Check.due("count " + what + " after a fault", x.count(what), stays[what]);
        }
        Check.due("day's fault", Check.day(x, "moment;moment;moment;;"), 1 + 16 * 21);
        Check.due("lines stay", x.count(7), 2);
        Check.due("another day", Check.day(x, "moment;moment;moment;"), 0);
        Check.due("its lines", x.count(7), 3);
        Check.due("undone stays", x.count(9), 2);
        Check.due("mark", x.mark(2, true), true);
        x.hush(0);
        Check.due("another", Check.province(x, "word w;"), 0);
        int[] anew = {1, 0, 0, 0, 0, 0, 0, 0, 0, 0, 0};
        for (int what = 0; what < anew.length; what++) {
            Check.due("count " + what + " after another", x.count(what), anew[what]);
        }
        Check.due("no mark", x.mark(2, true), false);
        Check.due("no undo", x.undo(), false);
        Check.due("empty day", Check.day(x, "moment;"), 0);
        Check.due("empty tape", x.day(), 0);
        Check.due("an empty day has no line", x.count(7), 0);
        Check.due("empty tape", x.province(), 0);
        Check.due("an empty province", x.count(0), 0);
    }

    /** Nothing of an older province is left in a newer one, and in the one behind that. */
    private static void readingAgain() {
        SnapWed x = new SnapWed();
        String laws = "says aa ww 3;likes aa bb 4;kept aa bb;counts 0;parts 9;";
        for (int i = 0; i < 3; i++) {
            Check.due("told", Check.province(x, LAND + laws), 0);
            Check.due("kept", x.count(5), 1);
        }
        for (int i = 0; i < 3; i++) {
            Check.due("less told", Check.province(x, LAND), 0);
            Check.due("odds", x.odds(0, 0), 0);
            Check.due("liking", x.likes(0, 1), 0);
            Check.due("kept", x.count(5), 0);
            x.say(0, 0);
            x.say(1, 0);
            Check.due("all counts", x.moment(), 1);
            Check.due("parting costs 1", x.part(0, 1), 1);
        }
        Check.due("each so once, again", Check.province(x, LAND + laws), 0);
        Check.due("each so once, again", Check.province(x, LAND + laws), 0);
        for (int i = 0; i < 3; i++) {
            Check.due("nothing told", x.province(), 0);
            for (int what = 0; what <= 10; what++) {
                Check.due("count " + what, x.count(what), 0);
            }
        }
        Check.due("all names are free", Check.province(x, "word aa;word pp;place ww;"), 0);
        Check.due("places anew", x.count(1), 1);
    }
}
