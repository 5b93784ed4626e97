import java.util.Arrays;
import java.util.NoSuchElementException;

/** Boundary cases of promises 1 to 4 and of the Terms they rest on: a test of its own for each sentence. */
public final class EdgesOfReadingTest {
    private static final String LAND = "word ww;place pp;person aa plain at pp shy 1;person bb echo at pp shy 1;";
    private static final String[] RESERVED = {"word", "place", "person", "at", "shy", "says", "likes", "kept", "counts",
        "parts", "say", "hush", "walk", "part", "keep", "moment", "plain", "deaf", "stammer", "echo", "not", "and", "or"};
    private static final String[] DAY_WORDS = {"say", "hush", "walk", "part", "keep", "moment"};
    private static final String[] PROVINCE_WORDS = {"word", "place", "person", "says", "likes", "kept", "counts", "parts"};
    private static final long BLANKS = 0x2020202020202020L;

    private EdgesOfReadingTest() {
    }

    public static void main(String[] args) throws IllegalAccessException {
        Edges.run(EdgesOfReadingTest.class, 1, 4);
    }

    private static void fault(int kind, String text) {
        Edges.provinceFault(kind, text);
    }

    private static void afterLand(int kind, String text) {
        Edges.provinceFault(kind, LAND + text);
    }

    private static void day(int kind, String text) {
        Edges.dayFault(LAND, kind, text);
    }

    private static SnapWed withBlanks(int signs) {
        SnapWed x = new SnapWed();
        Check.due("blanks", Check.feed(x, " ".repeat(signs)), signs);
        return x;
    }

    // ---- promise 1: "Nothing." "At first: nothing."

    static void promise01NoneIsMinusOne() {
        Check.due("NONE", SnapWed.NONE, -1);
    }

    static void promise01NewObjectCountsNothing() {
        for (int what = 0; what <= 10; what++) {
            Check.due("count(" + what + ")", new SnapWed().count(what), 0);
        }
    }

    static void promise01NobodyIsThereToAskAbout() {
        SnapWed x = new SnapWed();
        Check.due("person", x.person(0, 0), -2);
        Check.due("odds", x.odds(0, 0), -1);
        Check.due("likes", x.likes(0, 1), -1);
        Check.due("two", x.two(0, 1, 2), false);
        Check.due("chance", x.chance(0, 1), -1);
        Check.due("within", x.within(0, 1, 1), -1);
        Check.due("half", x.half(0, 1), -1);
        Check.due("safest", x.safest(0), -1);
        Check.due("haven", x.haven(0), -1);
        Check.due("matches of a person", x.matches(0), -2);
        Check.due("code", x.code(0, 1), -1);
        Check.due("may", x.may(0, 0), -1);
        Check.due("rota", x.rota(0, -1), -2);
        Check.due("company", x.company(0), -1);
    }

    static void promise01NobodyCanDoAnything() {
        SnapWed x = new SnapWed();
        Check.due("say", x.say(0, 0), false);
        Check.due("hush", x.hush(0), false);
        Check.due("walk", x.walk(0, 0), false);
        Check.due("part", x.part(0, 1), -1);
        Check.due("keep", x.keep(0, 1), false);
        Check.due("hear a saying", x.hear(0), false);
        Check.due("no deed", x.count(9), 0);
    }

    static void promise01EmptyAnswers() {
        SnapWed x = new SnapWed();
        Check.due("bigamists", x.bigamists(), 0);
        Check.due("mend, paid", x.mend(0), 0);
        Check.due("mend, pairs", x.mend(1), 0);
        Check.due("the one match of nobody", x.matches(-1), 1);
        Check.due("who", x.who(), 0);
        Check.due("likely", x.likely(), -1);
        Check.due("ask", x.ask(), -2);
        for (int what = 0; what < 3; what++) {
            Check.due("generations", x.generations(9999, 60, what), 0);
        }
    }

    static void promise01NoDayIsThere() {
        SnapWed x = new SnapWed();
        Check.due("no line that can't be", x.judged(0), -1);
        Check.due("no moment's line", x.judged(1), -1);
        Check.due("no pairs", x.judged(2), 0);
    }

    static void promise01NothingCanBeUndone() {
        Check.due("undo", new SnapWed().undo(), false);
    }

    static void promise01NoMarkIsThere() {
        for (int mark = 0; mark < 4; mark++) {
            Check.due("mark " + mark, new SnapWed().mark(mark, true), false);
        }
    }

    static void promise01MomentsPassWithNobody() {
        SnapWed x = new SnapWed();
        Check.due("moment", x.moment(), 0);
        Check.due("count(3)", x.count(3), 1);
        Check.due("undo", x.undo(), true);
        Check.due("count(3)", x.count(3), 0);
    }

    static void promise01WindowsNeedNoProvince() throws NoSuchElementException {
        Check.due("rests", new SnapWed().rests(1, 1, -1), 4);
    }

    /** "An object is used for at most 512 calls after it has been made" */
    static void promise01The512thCallIsAnswered() {
        SnapWed x = new SnapWed();
        for (int call = 1; call < 512; call++) {
            Check.due("moment " + call, x.moment(), 0);
        }
        Check.due("the 512th call", x.count(3), 511);
    }

    static void promise01ObjectsShareNothing() {
        SnapWed one = Check.in(Edges.village(2) + "says a w 4;");
        SnapWed other = Check.in("word u;place r;person z deaf at r shy 7;");
        one.say(0, 1);
        one.moment();
        one.mark(0, false);
        one.hear(0);
        Check.feed(one, "word");
        Check.due("moment", other.count(3), 0);
        Check.due("people", other.count(2), 1);
        Check.due("kind", other.person(0, 0), 1);
        Check.due("shy", one.person(0, 2), 0);
        Check.due("heard", other.count(8), 0);
        Check.due("tape", other.count(10), 0);
        Check.due("mark", other.mark(0, true), false);
        Check.due("odds", one.odds(0, 0), 4);
    }

    // ---- promise 2

    private static boolean isSign(int sign) {
        return sign == 10 || sign >= 32 && sign <= 126;
    }

    private static int feedOne(SnapWed x, int sign, int place) {
        byte[] bytes = new byte[24];
        bytes[place] = (byte) sign;
        return x.feed(Check.eight(bytes, 0), Check.eight(bytes, 8), Check.eight(bytes, 16));
    }

    /** "others than 10 and 32 .. 126 .. are left out" */
    static void promise02EachByteIsASignOrLeftOut() {
        for (int sign = 0; sign < 256; sign++) {
            SnapWed x = new SnapWed();
            for (int place = 0; place < 24; place++) {
                int want = isSign(sign) ? place + 1 : 0;
                Check.due("sign " + sign + " at " + place, feedOne(x, sign, place), want);
            }
        }
    }

    /** "the bytes of a, b, c, of each the highest first" */
    static void promise02EachPlaceOf24() {
        for (int place = 0; place < 24; place++) {
            byte[] bytes = new byte[24];
            Arrays.fill(bytes, (byte) ' ');
            bytes[place] = '?';
            SnapWed x = new SnapWed();
            Check.due("24 signs", x.feed(Check.eight(bytes, 0), Check.eight(bytes, 8), Check.eight(bytes, 16)), 24);
            Check.due("what is wrong stands at " + place, x.province(), 1 + 16 * place);
        }
    }

    static void promise02WhatIsLeftOutLeavesNoGap() {
        SnapWed x = new SnapWed();
        Check.due("two of eight", x.feed(0x00_20_00_00_80_ff_00_3fL, 0, 0), 2);
        Check.due("? stands at 1", x.province(), 1 + 16);
    }

    static void promise02NothingFedIsNothingMore() {
        SnapWed x = withBlanks(5);
        Check.due("zeros", x.feed(0, 0, 0), 5);
        Check.due("bytes of 255", x.feed(-1, -1, -1), 5);
        Check.due("the least long", x.feed(Long.MIN_VALUE, Long.MIN_VALUE, Long.MIN_VALUE), 5);
    }

    /** "come behind the TAPE" .. "how many there are": in all, not how many were fed */
    static void promise02SignsComeBehindTheTape() {
        SnapWed x = withBlanks(30);
        Check.due("one more", feedOne(x, '?', 11), 31);
        Check.due("one more", feedOne(x, ' ', 0), 32);
        Check.due("? stands at 30", x.province(), 1 + 16 * 30);
    }

    /** "at most 1,000 signs" .. "what is beyond 1,000" is left out */
    static void promise02TheThousandthIsTaken() {
        SnapWed x = withBlanks(999);
        Check.due("the thousandth", feedOne(x, '?', 23), 1000);
        Check.due("it stands there", x.province(), 1 + 16 * 999);
    }

    static void promise02TheNextIsLeftOut() {
        SnapWed x = withBlanks(1000);
        Check.due("one beyond", feedOne(x, '?', 0), 1000);
        Check.due("24 beyond", x.feed(0x3f3f3f3f3f3f3f3fL, 0x3f3f3f3f3f3f3f3fL, 0x3f3f3f3f3f3f3f3fL), 1000);
        Check.due("count", x.count(10), 1000);
        Check.due("blanks alone", x.province(), 0);
    }

    static void promise02OfOneFeedTheFirstOnesAreTaken() {
        SnapWed x = withBlanks(991);
        Check.due("nine fit", x.feed(BLANKS, 0x3f3f3f3f3f3f3f3fL, 0x3f3f3f3f3f3f3f3fL), 1000);
        Check.due("the ninth is the first ?", x.province(), 1 + 16 * 999);
        SnapWed y = withBlanks(992);
        Check.due("eight fit", y.feed(BLANKS, 0x3f3f3f3f3f3f3f3fL, 0x3f3f3f3f3f3f3f3fL), 1000);
        Check.due("no ? fits", y.province(), 0);
    }

    static void promise02SignsLeftOutDontCountToTheThousand() {
        SnapWed x = withBlanks(999);
        Check.due("the last byte is a sign", x.feed(0, -1, 0x7f7f7f7f7f7f7f3fL), 1000);
        Check.due("it is taken", x.province(), 1 + 16 * 999);
    }

    static void promise02TheTapeCanBeFilledAgain() {
        SnapWed x = withBlanks(1000);
        x.province();
        Check.due("from the start", feedOne(x, ' ', 0), 1);
        Check.due("and full", Check.feed(x, " ".repeat(999)), 1000);
    }

    static void promise02FeedChangesTheTapeAlone() {
        SnapWed x = Check.in(LAND);
        x.say(0, 0);
        Check.due("fed", x.feed(BLANKS, BLANKS, BLANKS), 24);
        Check.due("no deed", x.count(9), 1);
        Check.due("the province stays", x.count(2), 2);
    }

    // ---- promise 3: the tape and its tokens

    /** "any number of": none, too */
    static void promise03EmptyTapeIsAProvince() {
        SnapWed x = Check.in(LAND);
        Check.due("empty", x.province(), 0);
        Check.due("nobody", x.count(2), 0);
        Check.due("no places", x.count(1), 0);
        Check.due("no sayings", x.count(0), 0);
    }

    static void promise03BlanksAloneAreAProvince() {
        SnapWed x = Check.in(LAND);
        Check.due("blanks", Check.province(x, " \n \n"), 0);
        Check.due("nobody", x.count(2), 0);
    }

    /** "what reads it takes it: it is empty then" */
    static void promise03TheTapeIsTaken() {
        SnapWed x = new SnapWed();
        Check.due("read", Check.province(x, "word ww;"), 0);
        Check.due("taken", x.count(10), 0);
    }

    static void promise03TheTapeIsTakenByAFaultToo() {
        SnapWed x = new SnapWed();
        Check.due("fault", Check.province(x, "word ww;;place pp;"), 1 + 16 * 8);
        Check.due("taken", x.count(10), 0);
        Check.due("nothing of it is left", x.province(), 0);
        Check.due("nothing of it was told", x.count(0) + x.count(1), 0);
    }

    /** "blanks (10, 32) between where one likes" */
    static void promise03BlanksWhereOneLikes() {
        fault(0, "\n\n  word \n a\n;\n  place\nb ;  person c  plain\n\nat b shy\n0 ; ");
        fault(0, "place b;person c plain at b shy 0;counts(1)<(2)and(3)or not(4);");
    }

    static void promise03NoBlankWithinAToken() {
        fault(1, "^wo rd a;");
        fault(1, "word a ^b;");
        afterLand(1, "counts 1 ^2;");
    }

    /** "each as long as can be" */
    static void promise03TokensAreAsLongAsCanBe() {
        fault(1, "^worda;");
        fault(1, "^wordword a;");
        afterLand(1, "person cc plain ^atpp shy 1;");
        afterLand(1, "counts ^notliking;");
        afterLand(4, "likes aa bb^12;");
    }

    /** "WORDS (letters a .. z, 8 at most)" */
    static void promise03WordOfEightLetters() {
        fault(0, "word abcdefgh;");
        fault(0, "word azazazaz;word zzzzzzzz;word aaaaaaaa;");
        fault(0, "word abcdefgh;word abcdefgi;word bbcdefgh;");
        fault(3, "word abcdefgh;word ^abcdefgh;");
    }

    /** "a longer WORD .. too, at its first sign, is none" */
    static void promise03WordOfNineLettersIsNone() {
        fault(1, "word ^abcdefghi;");
        fault(1, "word a;word ^aaaaaaaaaaaaaaaaaaaaaaaaaaaaaaaaaa;");
        fault(1, "^" + "w".repeat(1000));
    }

    static void promise03WordOfOneLetter() {
        fault(0, "word a;word z;");
        fault(1, "word^;");
    }

    static void promise03SignsNextToLettersAreNone() {
        fault(1, "word ^`;");
        fault(1, "word ^{;");
        fault(1, "word a^`;");
        fault(1, "word a^{;");
    }

    static void promise03CapitalsAreNone() {
        for (char c = 'A'; c <= 'Z'; c++) {
            fault(1, "word ^" + c + ";");
            fault(1, "word a^" + c + ";");
        }
    }

    /** "NUMBERS (1 to 4 digits" */
    static void promise03NumberOfFourDigits() {
        afterLand(0, "counts 9999;");
        afterLand(0, "counts 0;");
        afterLand(0, "person cc plain at pp shy 0009;");
        afterLand(4, "person cc plain at pp shy ^0010;");
    }

    /** "a longer .. NUMBER, too, at its first sign, is none": not a NUMBER that is not as told */
    static void promise03NumberOfFiveDigitsIsNone() {
        afterLand(1, "counts ^10000;");
        afterLand(1, "person cc plain at pp shy ^00001;");
        afterLand(1, "counts ^18446744073709551617;");
    }

    /** "a letter may stand right behind" */
    static void promise03LetterRightBehindANumber() {
        afterLand(0, "counts 1and 2or 3;");
        afterLand(1, "likes aa bb 1^aa;");
    }

    static void promise03NumberRightBehindAWord() {
        afterLand(0, "says aa ww1;likes aa bb2;person cc plain at pp shy3;");
        fault(1, "word a^1;");
    }

    static void promise03SignsNextToDigitsAreNone() {
        afterLand(1, "counts ^/;");
        afterLand(1, "counts ^:;");
        afterLand(1, "counts 1^/;");
        afterLand(1, "counts 1^:;");
    }

    /** "the signs ( ) < = + - * ;  All else .. is none." */
    static void promise03AllElseIsNone() {
        for (char c = 33; c < 127; c++) {
            boolean token = c >= 'a' && c <= 'z' || c >= '0' && c <= '9' || "()<=+-*;".indexOf(c) >= 0;
            if (!token) {
                SnapWed x = new SnapWed();
                Check.due("sign " + c, Check.province(x, LAND + "counts 1" + c + "1;"), 1 + 16 * (LAND.length() + 8));
            }
        }
        afterLand(0, "counts (1)<1;parts 1=1+1-1*1;");
    }

    /** "the end being one at the text's length" */
    static void promise03TheEndStandsAtTheTextsLength() {
        fault(1, "word^");
        fault(1, "word a^");
        fault(1, "word a  \n ^");
        afterLand(1, "counts^");
        afterLand(1, "counts 1^");
        afterLand(1, "counts (1^");
    }

    static void promise03TheEndOfAFullTape() {
        fault(1, "word a" + " ".repeat(994) + "^");
        fault(0, "word a" + " ".repeat(993) + ";");
    }

    /** "of the first token from the left that is wrong" */
    static void promise03TheFirstWrongTokenIsTold() {
        fault(1, "word ^?;word a;word a;");
        fault(3, "word a;word ^a;word ?;");
        fault(5, "word a;word b;word c;word d;word e;^word ?;");
        fault(2, "place p;person a plain at ^q shy 10;");
        fault(1, "place p;person a ^king at q shy 10;");
        afterLand(2, "says ^cc dd 0;");
        afterLand(3, "likes aa ^aa 10;");
    }

    /** "that is wrong the least": of the kinds of one token */
    static void promise03OfATokenTheLeastKind() {
        afterLand(1, "counts not not not not not ^);");
        afterLand(1, "counts (((((^;");
        afterLand(1, "counts (((((^10000)))));");
        afterLand(1, "person cc plain at pp shy ^99999;");
    }

    // ---- promise 3: the lines

    private static void append(StringBuilder text, String line, char one, char other, int number) {
        text.append(line.replace('1', one).replace('2', other).replace('3', (char) ('0' + number)));
    }

    /** All that can be told at once; no more fits on the TAPE than that and nine signs. */
    private static String fullest() {
        StringBuilder text = new StringBuilder("counts0;parts7;");
        for (char c = 'v'; c <= 'z'; c++) {
            append(text, "word 1;", c, ' ', 0);
        }
        for (char c = 'p'; c <= 's'; c++) {
            append(text, "place 1;", c, ' ', 0);
        }
        for (char c = 'a'; c <= 'f'; c++) {
            append(text, "person 1 echo at s shy3;", c, ' ', c - 'a');
        }
        for (char c = 'a'; c <= 'f'; c++) {
            for (char d = 'v'; d <= 'z'; d++) {
                append(text, "says 1 23;", c, d, 1 + (c + d) % 9);
            }
            for (char d = 'a'; d <= 'f'; d++) {
                if (c != d) {
                    append(text, "likes 1 23;", c, d, (c + 2 * d) % 10);
                }
                if (c < d) {
                    append(text, "kept 1 2;", d, c, 0);
                }
            }
        }
        return text.toString();
    }

    /** "any number of": as many as there can be */
    static void promise03AllThatCanBeToldAtOnce() {
        Check.due("its length", fullest().length(), 991);
        SnapWed x = Check.in(fullest());
        Check.due("words", x.count(0), 5);
        Check.due("places", x.count(1), 4);
        Check.due("people", x.count(2), 6);
        Check.due("dispensations", x.count(5), 0x7fff);
        for (int one = 0; one < 6; one++) {
            Check.due("shy", x.person(one, 2), one);
            for (int saying = 0; saying < 5; saying++) {
                Check.due("odds", x.odds(one, saying), 1 + ('a' + one + 'v' + saying) % 9);
            }
            for (int other = 0; other < 6; other++) {
                Check.due("likes", x.likes(one, other), one == other ? -1 : ('a' + one + 2 * ('a' + other)) % 10);
            }
        }
    }

    /** "word: 5 at most" .. "5 one too many: the words word of a sixth" */
    static void promise03FiveWords() {
        String five = "word a;word b;word c;word d;word e;";
        fault(0, five);
        fault(5, five + "^word f;");
        fault(5, five + "^word a;");
        fault(5, five + "^word");
        fault(0, five + "place f;");
    }

    /** "place: 4 at most" .. "place of a fifth" */
    static void promise03FourPlaces() {
        String four = "place a;place b;place c;place d;";
        fault(0, four);
        fault(5, four + "^place e;");
        fault(5, four + "^place a;");
        fault(5, four + "^place");
        fault(0, four + "word e;");
    }

    /** "person: 6 at most" .. "person of a seventh" */
    static void promise03SixPeople() {
        fault(0, Edges.village(6));
        fault(5, Edges.village(6) + "^person g plain at p shy 0;");
        fault(5, Edges.village(6) + "^person a plain at p shy 0;");
        fault(5, Edges.village(6) + "^person");
        fault(0, Edges.village(6) + "word g;place h;");
    }

    /** "numbered as told each" */
    static void promise03NumberedAsToldEach() {
        SnapWed x = Check.in("place z;word b;place a;word c;"
                + "person y deaf at a shy 3;person x echo at z shy 4;says x b 1;says x c 2;says y c 3;");
        Check.due("y is the first", x.person(0, 0), 1);
        Check.due("x is the second", x.person(1, 0), 3);
        Check.due("a is the second place", x.person(0, 1), 1);
        Check.due("z is the first place", x.person(1, 1), 0);
        Check.due("b is the first word", x.odds(1, 0), 1);
        Check.due("c is the second word", x.odds(1, 1), 2);
        Check.due("y says c", x.odds(0, 1), 3);
    }

    static void promise03NamesOfNobodyWhenAllAreTold() {
        String all = Edges.village(6) + "word x;word y;word z;place r;place s;";
        fault(2, all + "says ^g w 1;");
        fault(2, all + "says f ^g 1;");
        fault(2, all + "likes f ^g 1;");
        fault(0, all + "says f z 1;likes f e 1;kept f e;");
    }

    /** "KIND: plain, deaf, stammer, echo" */
    static void promise03AnotherKindIsAFault() {
        for (String kind : new String[] {"plain", "deaf", "stammer", "echo"}) {
            afterLand(0, "person cc " + kind + " at pp shy 0;");
        }
        for (String kind : new String[] {"mute", "aa", "at", "word", "not", "1", ";", "liking"}) {
            afterLand(1, "person cc ^" + kind + " at pp shy 0;");
        }
    }

    /** "at a PLACE told" */
    static void promise03PlaceMustBeToldAhead() {
        fault(2, "person a plain at ^p shy 0;place p;");
        afterLand(2, "person cc plain at ^ww shy 0;");
        afterLand(2, "person cc plain at ^aa shy 0;");
        afterLand(2, "person cc plain at ^cc shy 0;");
    }

    /** "shy 0 to 9" */
    static void promise03ShyFrom0To9() {
        afterLand(0, "person cc plain at pp shy 0;person dd plain at pp shy 9;");
        afterLand(4, "person cc plain at pp shy ^10;");
        afterLand(4, "person cc plain at pp shy ^9999;");
        afterLand(1, "person cc plain at pp shy ^-1;");
    }

    /** "says: a PERSON a SAYING (word) told" */
    static void promise03SaysOfThoseTold() {
        afterLand(2, "says ^cc ww 1;person cc plain at pp shy 0;");
        afterLand(2, "says ^ww ww 1;");
        afterLand(2, "says ^pp ww 1;");
        afterLand(2, "says aa ^vv 1;word vv;");
        afterLand(2, "says aa ^pp 1;");
        afterLand(2, "says aa ^bb 1;");
    }

    /** "1 to 9 (0)" */
    static void promise03SaysFrom1To9() {
        afterLand(0, "says aa ww 1;says bb ww 9;");
        afterLand(4, "says aa ww ^0;");
        afterLand(4, "says aa ww ^10;");
        afterLand(4, "says aa ww ^0000;");
    }

    /** "each two once" .. "a SAYING of says told of that PERSON" */
    static void promise03SaysOfTwoOnce() {
        afterLand(3, "says aa ww 1;says aa ^ww 1;");
        afterLand(3, "says aa ww 9;says aa ^ww 0;");
        afterLand(0, "word vv;says aa ww 1;says aa vv 1;says bb ww 1;says bb vv 1;");
    }

    /** "likes: a PERSON another one told" */
    static void promise03LikesOfThoseTold() {
        afterLand(2, "likes ^cc aa 1;person cc plain at pp shy 0;");
        afterLand(2, "likes aa ^cc 1;person cc plain at pp shy 0;");
        afterLand(2, "likes ^ww aa 1;");
        afterLand(2, "likes aa ^pp 1;");
    }

    /** "the second PERSON that is the first one" */
    static void promise03LikesOfHimself() {
        afterLand(3, "likes aa ^aa 1;");
        afterLand(3, "likes bb ^bb 1;");
    }

    /** "0 to 9 (0)" */
    static void promise03LikesFrom0To9() {
        afterLand(0, "likes aa bb 0;likes bb aa 9;");
        afterLand(4, "likes aa bb ^10;");
        afterLand(1, "likes aa bb ^-1;");
    }

    /** "each so once" .. "of likes of two told so": also if the liking told was 0, not the other way round */
    static void promise03LikesSoOnce() {
        afterLand(3, "likes aa bb 1;likes aa ^bb 1;");
        afterLand(3, "likes aa bb 0;likes aa ^bb 0;");
        afterLand(3, "likes bb aa 0;likes aa bb 1;likes bb ^aa 10;");
        afterLand(0, "likes aa bb 0;likes bb aa 0;");
    }

    /** "kept: two PEOPLE told" */
    static void promise03KeptOfThoseTold() {
        afterLand(2, "kept ^cc aa;person cc plain at pp shy 0;");
        afterLand(2, "kept aa ^cc;person cc plain at pp shy 0;");
        afterLand(2, "kept ^ww aa;");
        afterLand(2, "kept aa ^pp;");
    }

    /** "not the same" */
    static void promise03KeptOfHimself() {
        afterLand(3, "kept aa ^aa;");
        afterLand(3, "kept bb ^bb;");
    }

    /** "each pair once": either way round */
    static void promise03KeptOfAPairOnce() {
        afterLand(3, "kept aa bb;kept aa ^bb;");
        afterLand(3, "kept aa bb;kept bb ^aa;");
        afterLand(3, "kept bb aa;kept aa ^bb;");
        afterLand(0, "person cc deaf at pp shy 0;kept aa bb;kept cc aa;kept bb cc;");
    }

    /** "counts, parts: once each" .. "counts, parts a second time" */
    static void promise03LawsOnceEach() {
        afterLand(0, "counts 1;parts 1;");
        afterLand(0, "parts 1;counts 1;");
        afterLand(3, "counts 1;^counts 1;");
        afterLand(3, "parts 1;counts 1;^parts");
        afterLand(3, "counts 0;^counts ?");
    }

    static void promise03LawsMayBeToldAgainInTheNextProvince() {
        SnapWed x = Check.in(LAND + "counts 0;parts 0;");
        Check.due("a fault behind both laws", Check.province(x, "counts 0;parts 0;?"), 1 + 16 * 17);
        Check.due("told again", Check.province(x, "counts 0;parts 0;"), 0);
        Check.due("and again", Check.province(x, "counts 0;parts 0;"), 0);
    }

    /** "A NAME is another WORD than word, place .." */
    static void promise03ReservedWordsAreNoNames() {
        for (String word : RESERVED) {
            fault(1, "word ^" + word + ";");
            fault(1, "place ^" + word + ";");
            fault(1, "person ^" + word + " plain at p shy 0;");
            afterLand(1, "person cc plain at ^" + word + " shy 0;");
            afterLand(1, "says ^" + word + " ww 1;");
            afterLand(1, "says aa ^" + word + " 1;");
            afterLand(1, "likes aa ^" + word + " 1;");
            afterLand(1, "kept aa ^" + word + ";");
        }
    }

    static void promise03OtherWordsAreNames() {
        for (String word : new String[] {"liking", "back", "wives", "count", "partss", "sayss", "snap"}) {
            fault(0, "word " + word + ";");
            fault(0, "place " + word + ";person a plain at " + word + " shy 0;");
            fault(0, "place p;person " + word + " plain at p shy 0;person b deaf at p shy 0;kept b " + word + ";");
        }
    }

    /** "no two (SAYINGS, PLACES, PEOPLE) are alike" .. "3 a NAME told already" */
    static void promise03NoTwoNamesAreAlike() {
        fault(3, "word a;word ^a;");
        fault(3, "word a;place ^a;");
        fault(3, "place a;word ^a;");
        fault(3, "place a;place ^a;");
        fault(3, "place a;person ^a plain at a shy 0;");
        afterLand(3, "person ^aa plain at pp shy 0;");
        afterLand(3, "word ^aa;");
        afterLand(3, "place ^bb;");
        afterLand(3, "person ^ww plain at pp shy 0;");
    }

    static void promise03ALineEndsByASemicolon() {
        fault(1, "word a ^word b;");
        fault(1, "word a;^;");
        fault(1, "^;");
        afterLand(1, "kept aa bb ^kept");
    }

    static void promise03DayWordsBeginNoLine() {
        for (String word : DAY_WORDS) {
            afterLand(1, "^" + word + " aa;");
        }
    }

    // ---- promise 3: the laws

    static void promise03ALawNeedsAPart() {
        afterLand(1, "counts ^;");
        afterLand(1, "counts 1 and ^;");
        afterLand(1, "counts 1 < ^;");
        afterLand(1, "counts 1 + ^;");
        afterLand(1, "counts 1 * ^;");
        afterLand(1, "counts not ^;");
        afterLand(1, "counts (^);");
        afterLand(1, "counts ^-1;");
    }

    static void promise03ANameIsNoFact() {
        afterLand(1, "counts ^aa;");
        afterLand(1, "counts ^ww;");
        afterLand(1, "counts ^shy;");
        afterLand(0, "counts liking;parts back + wives;");
        afterLand(0, "word liking;counts liking;");
    }

    /** "TEST: SUM, or SUM < SUM, or SUM = SUM": no third SUM */
    static void promise03OneComparisonInATest() {
        afterLand(0, "counts 1 < 2 and 2 = 2 or 3 < 4;");
        afterLand(1, "counts 1 < 2 ^< 3;");
        afterLand(1, "counts 1 < 2 ^= 3;");
        afterLand(1, "counts 1 = 2 ^< 3;");
        afterLand(1, "counts (1 = 2 ^= 3);");
        afterLand(0, "counts (1 = 2) = 3;");
    }

    static void promise03BracketsAreClosedOnce() {
        afterLand(1, "counts (1^;");
        afterLand(1, "counts 1^);");
        afterLand(1, "counts ((1)^;");
        afterLand(1, "counts (1)^);");
    }

    /** "no PART lies within 5 of not and ( )" */
    static void promise03APartWithinFour() {
        afterLand(0, "counts not not not not 1;");
        afterLand(0, "counts ((((1))));");
        afterLand(0, "counts not (not (wives));");
        afterLand(0, "counts ((((1))))+((((1))))*((((back))));");
    }

    /** "a PART, within 5 others" */
    static void promise03APartWithinFive() {
        afterLand(5, "counts not not not not not ^1;");
        afterLand(5, "counts (((((^1)))));");
        afterLand(5, "counts (((((^liking)))));");
        afterLand(5, "counts not (not (not ^back));");
        afterLand(5, "counts 1 + ((((1 * not ^1))));");
    }

    /** "not .. within 5 others" */
    static void promise03ANotOrABracketWithinFive() {
        afterLand(5, "counts not not not not not ^not 1;");
        afterLand(5, "counts (((((^not 1)))));");
        afterLand(5, "counts (((((^(1))))));");
    }

    static void promise03PartsBesideOneAnotherAreNotWithin() {
        afterLand(0, "counts not 1 + not 1 + not 1 + not 1 + not 1 + not 1;");
        afterLand(0, "counts (1)*(1)*(1)*(1)*(1)*(1)*(1);");
        afterLand(0, "counts (((not 1))) and (((not 1)));");
    }

    static void promise03TheLongestLaw() {
        String sum = "counts 1" + "+1".repeat(495);
        fault(0, sum + " ;");
        fault(1, sum + "+1^");
    }

    // ---- promise 3: what comes of it

    private static SnapWed busy() {
        SnapWed x = Check.in(Edges.village(3) + "person d stammer at p shy 2;person e echo at p shy 0;says a w 2;says b w 3;"
                + "likes a b 4;parts 5;");
        Edges.snap(x, 0, 0, 1, 3);
        x.part(0, 1);
        Edges.snap(x, 1, 0, 2);
        x.keep(0, 1);
        x.walk(1, 1);
        x.say(2, 1);
        x.hear(0);
        x.mark(1, false);
        Check.due("a day", Check.day(x, "say a w;moment;"), 0);
        return x;
    }

    /** "0, or its FAULT (all stays then)" */
    static void promise03AFaultLeavesAllAsItWas() {
        SnapWed x = busy();
        String before = Edges.portrait(x);
        Check.due("fault", Check.province(x, Edges.village(5) + "kept a b;counts 0;parts 9;?") & 15, 1);
        Edges.same("a fault", before, Edges.portrait(x));
        Check.due("the mark stays", x.mark(1, true), true);
    }

    static void promise03AFaultLeavesTheLawsAsTheyWere() {
        SnapWed x = Check.in(Edges.village(3) + "counts wives = 0;parts 5;");
        Check.due("fault", Check.province(x, "counts 0;parts 9;;"), 1 + 16 * 17);
        Check.due("a and b alone", Edges.snap(x, 0, 0, 1, 2), 1);
        Check.due("5", x.part(0, 1), 5);
    }

    static void promise03AFaultLeavesWhatCanBeUndone() {
        SnapWed x = busy();
        Check.due("fault", Check.province(x, "?"), 1);
        Check.due("undo", x.undo(), true);
        Check.due("the say is undone", x.person(2, 3), -1);
    }

    /** Told more than once, so that nothing is left of what was told ahead, nor of what was told ahead of that. */
    private static SnapWed anew() {
        SnapWed x = busy();
        for (int i = 0; i < 2; i++) {
            Check.due("another", Check.province(x, Edges.village(3)
                    + "person d stammer at p shy 2;person e echo at p shy 0;kept b c;"), 0);
        }
        return x;
    }

    static void promise03AnewNobodyOfTheOldOnesIsThere() {
        SnapWed x = busy();
        for (int i = 0; i < 3; i++) {
            Check.due("less", Check.province(x, "word d;place e;"), 0);
            Check.due("sayings", x.count(0), 1);
            Check.due("places", x.count(1), 1);
            Check.due("people", x.count(2), 0);
            Check.due("dispensations", x.count(5), 0);
            Check.due("a is no name any more", Check.province(x, "word w;says a w 1;"), 2 + 16 * 12);
        }
    }

    static void promise03AnewAllMayBeToldAgain() {
        SnapWed x = new SnapWed();
        for (int i = 0; i < 4; i++) {
            Check.due("all at once", Check.province(x, fullest()), 0);
        }
    }

    static void promise03AnewOddsAndLikingAreGone() {
        SnapWed x = new SnapWed();
        Check.due("all at once", Check.province(x, fullest()), 0);
        for (int i = 0; i < 2; i++) {
            Check.due("people alone", Check.province(x, Edges.village(6)), 0);
            for (int one = 0; one < 6; one++) {
                Check.due("odds", x.odds(one, 0) + x.odds(one, 1), 0);
                for (int other = 0; other < 6; other++) {
                    Check.due("likes", x.likes(one, other), one == other ? -1 : 0);
                }
            }
        }
    }

    static void promise03AnewTheLawsAreGone() {
        SnapWed x = new SnapWed();
        Check.due("laws", Check.province(x, Edges.village(2) + "counts not 0;parts not 0;"), 0);
        for (int i = 0; i < 2; i++) {
            Check.due("none", Check.province(x, Edges.village(2)), 0);
            Check.due("all counts", Edges.snap(x, 0, 0, 1), 1);
            Check.due("parting costs 1", x.part(0, 1), 1);
        }
    }

    /** "moment 0" */
    static void promise03AnewItIsMoment0() {
        Check.due("moment", anew().count(3), 0);
    }

    /** "all at their PLACES" */
    static void promise03AnewAllAreAtTheirPlaces() {
        Check.due("b's place", anew().person(1, 1), 0);
    }

    /** "silent": nothing is to be said and nothing was */
    static void promise03AnewAllAreSilent() {
        SnapWed x = anew();
        for (int person = 0; person < 5; person++) {
            Check.due("to say", x.person(person, 3), -1);
            Check.due("utters", x.person(person, 4), -1);
        }
    }

    static void promise03AnewTheStammererHasNothingFromAhead() {
        SnapWed x = Check.in("word w;place p;person a stammer at p shy 0;");
        x.say(0, 0);
        x.moment();
        Check.due("w ahead", x.person(0, 4), 0);
        Check.due("anew", Check.province(x, "word w;place p;person a stammer at p shy 0;"), 0);
        Check.due("none", x.person(0, 4), -1);
    }

    static void promise03AnewTheEchoHasNothingFromAhead() {
        SnapWed x = Check.in("word w;place p;person a echo at p shy 0;");
        x.say(0, 0);
        x.moment();
        Check.due("w ahead", x.person(0, 4), 0);
        Check.due("anew", Check.province(x, "word w;place p;person a echo at p shy 0;"), 0);
        Check.due("none", x.person(0, 4), -1);
    }

    /** "nobody wed" */
    static void promise03AnewNobodyIsWed() {
        Check.due("pairs", anew().count(4), 0);
    }

    /** "dispensations as told" */
    static void promise03AnewDispensationsAreAsTold() {
        Check.due("b and c", anew().count(5), 1 << 5);
    }

    /** "nothing paid" */
    static void promise03AnewNothingIsPaid() {
        Check.due("paid", anew().count(6), 0);
    }

    /** "no DAY" */
    static void promise03AnewThereIsNoDay() {
        SnapWed x = anew();
        Check.due("lines", x.count(7), 0);
        Check.due("pairs of it", x.judged(2), 0);
    }

    /** "nothing HEARD" */
    static void promise03AnewNothingIsHeard() {
        SnapWed x = anew();
        Check.due("heard", x.count(8), 0);
        Check.due("all may", x.who(), 31);
    }

    /** "nothing can be undone" */
    static void promise03AnewNothingCanBeUndone() {
        SnapWed x = anew();
        Check.due("count", x.count(9), 0);
        Check.due("undo", x.undo(), false);
    }

    /** "no MARK is there" */
    static void promise03AnewNoMarkIsThere() {
        SnapWed x = anew();
        for (int mark = 0; mark < 4; mark++) {
            Check.due("mark " + mark, x.mark(mark, true), false);
        }
    }

    /** "Without counts: 1" */
    static void promise03WithoutCountsAllCounts() {
        Check.due("all three", Edges.snap(Check.in(Edges.village(3)), 0, 0, 1, 2), 1 | 2 | 1 << 5);
    }

    /** "without parts: 1 + liking + back" */
    static void promise03WithoutPartsItIsLikingAndBack() {
        Check.due("nothing liked", Edges.paidBy(""), 1);
        Check.due("liking", Edges.paidBy("likes a b 9;"), 10);
        Check.due("back", Edges.paidBy("likes b a 9;"), 10);
        Check.due("both", Edges.paidBy("likes a b 9;likes b a 9;"), 19);
    }

    // ---- promise 4

    static void promise04EmptyTapeIsADay() {
        SnapWed x = Check.in(LAND);
        Check.due("a day", Check.day(x, "moment;"), 0);
        Check.due("an empty one", x.day(), 0);
        Check.due("no lines", x.count(7), 0);
        Check.due("blanks", Check.day(x, " \n"), 0);
    }

    /** "30 lines at most" */
    static void promise04ThirtyLines() {
        SnapWed x = Check.in(LAND);
        Check.due("30", Check.day(x, "moment;".repeat(30) + " \n"), 0);
        Check.due("lines", x.count(7), 30);
    }

    /** "the first word of a 31st line of a DAY" */
    static void promise04TheThirtyFirstLine() {
        for (String word : DAY_WORDS) {
            day(5, "moment;".repeat(30) + "^" + word);
            day(5, "moment;".repeat(30) + "^" + word + " zz zz;");
        }
        day(5, "say aa ww;".repeat(30) + "^moment;moment;");
    }

    /** of the kinds of one token the least: what can't stand there is 1 ahead of one too many */
    static void promise04WhatBeginsNo31stLine() {
        for (String word : new String[] {"word", "aa", ";", "1", "?", "moments", "abcdefghi"}) {
            day(1, "moment;".repeat(30) + "^" + word);
        }
    }

    static void promise04ThirtyOneLinesLeaveTheDay() {
        SnapWed x = Check.in(LAND);
        Check.due("a day", Check.day(x, "moment;moment;"), 0);
        Check.due("31", Check.day(x, "moment;".repeat(31)), 5 + 16 * 210);
        Check.due("its lines stay", x.count(7), 2);
    }

    /** "2 a NAME .. of no PERSON (behind .. say, hush, walk, part, keep, the second of .. part, keep)" */
    static void promise04NamesOfNoPerson() {
        for (String name : new String[] {"ww", "pp", "cc", "liking"}) {
            day(2, "say ^" + name + " ww;");
            day(2, "hush ^" + name + ";");
            day(2, "walk ^" + name + " pp;");
            day(2, "part ^" + name + " aa;");
            day(2, "part aa ^" + name + ";");
            day(2, "keep ^" + name + " aa;");
            day(2, "keep aa ^" + name + ";");
        }
    }

    /** "of no PLACE (.. the second of walk)" */
    static void promise04NamesOfNoPlace() {
        for (String name : new String[] {"ww", "aa", "cc", "wives"}) {
            day(2, "walk aa ^" + name + ";");
        }
    }

    /** "of no SAYING (the second of .. say)" */
    static void promise04NamesOfNoSaying() {
        for (String name : new String[] {"pp", "aa", "cc", "back"}) {
            day(2, "say aa ^" + name + ";");
        }
    }

    /** "two PEOPLE, not the same" .. "3 .. the second PERSON that is the first one" */
    static void promise04TheSamePersonTwice() {
        day(3, "part aa ^aa;");
        day(3, "part bb ^bb;");
        day(3, "keep aa ^aa;");
        day(3, "keep bb ^bb;");
    }

    static void promise04TheSameLineAgainIsNoFault() {
        day(0, "keep aa bb;keep bb aa;keep aa bb;part aa bb;part aa bb;walk aa pp;walk aa pp;hush aa;hush aa;");
    }

    static void promise04ReservedWordsAreNoNames() {
        for (String word : RESERVED) {
            day(1, "say ^" + word + " ww;");
            day(1, "say aa ^" + word + ";");
            day(1, "hush ^" + word + ";");
            day(1, "walk aa ^" + word + ";");
            day(1, "part aa ^" + word + ";");
            day(1, "keep ^" + word + " aa;");
        }
    }

    static void promise04ProvinceWordsBeginNoLine() {
        for (String word : PROVINCE_WORDS) {
            day(1, "^" + word + " aa;");
        }
    }

    static void promise04LinesTakeJustTheirNames() {
        day(1, "moment ^aa;");
        day(1, "hush aa ^bb;");
        day(1, "say aa ww ^ww;");
        day(1, "walk aa pp ^pp;");
        day(1, "part aa bb ^aa;");
        day(1, "keep aa ^;");
        day(1, "say aa ^;");
        day(1, "hush ^;");
    }

    static void promise04NumbersStandNowhere() {
        day(1, "^1;");
        day(1, "say ^1 ww;");
        day(1, "say aa ^1;");
        day(1, "moment ^1;");
    }

    static void promise04TheEndStandsAtTheTextsLength() {
        day(1, "moment^");
        day(1, "moment \n ^");
        day(1, "say^");
        day(1, "say aa^");
        day(1, "keep aa bb^");
        day(1, "moment" + " ".repeat(994) + "^");
    }

    static void promise04TheTapeIsTaken() {
        SnapWed x = Check.in(LAND);
        Check.due("a day", Check.day(x, "moment;"), 0);
        Check.due("taken", x.count(10), 0);
        Check.due("a fault", Check.day(x, "moment;;moment;"), 1 + 16 * 7);
        Check.due("taken too", x.count(10), 0);
    }

    static void promise04WithoutAProvince() {
        SnapWed x = new SnapWed();
        Check.due("nobody is told", Check.day(x, "hush aa;"), 2 + 16 * 5);
        Check.due("a moment needs nobody", Check.day(x, "moment;"), 0);
        Check.due("its line", x.count(7), 1);
    }

    static void promise04NamesAreTheProvincesOfNow() {
        SnapWed x = Check.in(LAND);
        Check.due("another", Check.province(x, "word vv;place qq;person cc plain at qq shy 0;"), 0);
        Check.due("gone", Check.day(x, "hush aa;"), 2 + 16 * 5);
        Check.due("there", Check.day(x, "say cc vv;walk cc qq;"), 0);
        Check.due("a fault", Check.province(x, "place pp;person dd plain at pp shy 0;?") & 15, 1);
        Check.due("of a fault's province nobody is there", Check.day(x, "hush dd;"), 2 + 16 * 5);
    }

    /** "(all stays then)", "likewise" */
    static void promise04AFaultLeavesAllAsItWas() {
        SnapWed x = busy();
        String before = Edges.portrait(x);
        Check.due("fault", Check.day(x, "say a w;say b w;moment;?"), 1 + 16 * 23);
        Edges.same("a fault", before, Edges.portrait(x));
    }

    /** "A DAY is the DAY.": nothing of it is done, nothing else changes */
    static void promise04ADayChangesTheDayAlone() {
        SnapWed x = busy();
        int deeds = x.count(9);
        Check.due("day", Check.day(x, "walk a q;say b w;moment;keep b c;"), 0);
        Check.due("lines", x.count(7), 4);
        Check.due("moment", x.count(3), 2);
        Check.due("a's place", x.person(0, 1), 0);
        Check.due("dispensations", x.count(5), 1);
        Check.due("deeds", x.count(9), deeds);
        Check.due("heard", x.count(8), 1);
        Check.due("the mark", x.mark(1, true), true);
    }
}
