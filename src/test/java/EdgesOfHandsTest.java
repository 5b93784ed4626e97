/** Boundary cases of promises 5 to 15, people and what is done by hand: a test of its own for each sentence. */
public final class EdgesOfHandsTest {
    private static final int ALL_PAIRS = 0x7fff;

    private EdgesOfHandsTest() {
    }

    public static void main(String[] args) throws IllegalAccessException {
        Edges.run(EdgesOfHandsTest.class, 5, 15);
    }

    private static SnapWed six() {
        return Check.in(Edges.village(6));
    }

    /** One of each kind, and a plain one, at p; nobody is at q. */
    private static SnapWed kinds() {
        return Check.in("word w;word v;place p;place q;person a plain at p shy 0;person b deaf at p shy 0;"
                + "person c stammer at p shy 0;person d echo at p shy 0;person e plain at p shy 0;");
    }

    // ---- promise 5

    /** "-2: others" */
    static void promise05OtherPeople() {
        SnapWed x = six();
        for (int person : Edges.outside(0, 5)) {
            for (int what = 0; what < 6; what++) {
                Check.due("person(" + person + ", " + what + ")", x.person(person, what), -2);
            }
        }
        Check.due("the last one is there", x.person(5, 0), 0);
        SnapWed one = Check.in(Edges.village(1));
        Check.due("the first one is there", one.person(0, 0), 0);
        Check.due("there is no second one", one.person(1, 0), -2);
    }

    static void promise05OtherWhats() {
        SnapWed x = six();
        for (int what : Edges.outside(0, 5)) {
            Check.due("person(0, " + what + ")", x.person(0, what), -2);
        }
    }

    /** "KIND (0 plain, 1 deaf, 2 stammer, 3 echo)" */
    static void promise05EachKind() {
        SnapWed x = kinds();
        for (int kind = 0; kind < 4; kind++) {
            Check.due("kind", x.person(kind, 0), kind);
        }
    }

    static void promise05TheLastPlace() {
        SnapWed x = Check.in("place m;place n;place o;place p;person a plain at p shy 0;person b plain at m shy 0;");
        Check.due("the fourth", x.person(0, 1), 3);
        Check.due("the first", x.person(1, 1), 0);
    }

    static void promise05TheMostAndTheLeastShy() {
        SnapWed x = Check.in("place p;person a plain at p shy 0;person b plain at p shy 9;");
        Check.due("0", x.person(0, 2), 0);
        Check.due("9", x.person(1, 2), 9);
    }

    /** "what he is to say (NONE: none)" */
    static void promise05NothingToSay() {
        SnapWed x = kinds();
        Check.due("none at first", x.person(0, 3), -1);
        x.say(0, 0);
        Check.due("the first saying is not none", x.person(0, 3), 0);
        x.hush(0);
        Check.due("hushed", x.person(0, 3), -1);
    }

    /** "what he UTTERS in the coming MOMENT .. (NONE: none)" */
    static void promise05NothingToUtter() {
        SnapWed x = kinds();
        for (int person = 0; person < 5; person++) {
            Check.due("none at first", x.person(person, 4), -1);
        }
    }

    /** "as all is now" */
    static void promise05UttersAsAllIsNow() {
        SnapWed x = kinds();
        x.say(0, 1);
        Check.due("said", x.person(0, 4), 1);
        x.say(1, 0);
        Check.due("the deaf utter, too", x.person(1, 4), 0);
        x.hush(0);
        Check.due("hushed", x.person(0, 4), -1);
        Check.due("asking changes nothing", x.count(9), 3);
    }

    /** "to whom he is wed, as bits" */
    static void promise05WedToNobodyAndToAll() {
        SnapWed x = six();
        Check.due("nobody", x.person(0, 5), 0);
        Check.due("all fifteen pairs", Edges.snap(x, 0, 0, 1, 2, 3, 4, 5), ALL_PAIRS);
        for (int person = 0; person < 6; person++) {
            Check.due("all others, not himself", x.person(person, 5), 63 & ~(1 << person));
        }
    }

    // ---- promise 6

    /** "NONE: others" */
    static void promise06OtherPeople() {
        SnapWed x = Check.in(Edges.village(6) + "says a w 1;says f v 9;");
        for (int person : Edges.outside(0, 5)) {
            Check.due("odds(" + person + ", 0)", x.odds(person, 0), -1);
        }
        Check.due("the last", x.odds(5, 1), 9);
    }

    static void promise06OtherSayings() {
        SnapWed x = Check.in(Edges.village(6) + "says a w 1;");
        for (int saying : Edges.outside(0, 1)) {
            Check.due("odds(0, " + saying + ")", x.odds(0, saying), -1);
        }
    }

    /** "1 to 9 (0)" */
    static void promise06LeastMostAndUntold() {
        SnapWed x = Check.in(Edges.village(2) + "says a w 1;says b v 9;");
        Check.due("least", x.odds(0, 0), 1);
        Check.due("most", x.odds(1, 1), 9);
        Check.due("untold", x.odds(0, 1), 0);
        Check.due("untold", x.odds(1, 0), 0);
    }

    static void promise06PeopleWithoutWords() {
        Check.due("no saying", Check.in("place p;person a plain at p shy 0;").odds(0, 0), -1);
    }

    // ---- promise 7

    /** "NONE: others, the same" */
    static void promise07OtherPeople() {
        SnapWed x = six();
        for (int person : Edges.outside(0, 5)) {
            Check.due("likes(" + person + ", 0)", x.likes(person, 0), -1);
            Check.due("likes(0, " + person + ")", x.likes(0, person), -1);
            Check.due("the same that is nobody", x.likes(person, person), -1);
        }
    }

    static void promise07TheSame() {
        SnapWed x = six();
        for (int person = 0; person < 6; person++) {
            Check.due("himself", x.likes(person, person), -1);
        }
    }

    /** "0 to 9 (0)" */
    static void promise07LeastMostAndUntold() {
        SnapWed x = Check.in(Edges.village(6) + "likes a f 9;likes f e 0;");
        Check.due("most", x.likes(0, 5), 9);
        Check.due("told as 0", x.likes(5, 4), 0);
        Check.due("not the other way round", x.likes(5, 0), 0);
    }

    // ---- promise 8

    /** "false: others" */
    static void promise08OtherPeople() {
        SnapWed x = Check.in(Edges.village(6) + "says a w 1;says b w 1;kept a c;");
        for (int person : Edges.outside(0, 5)) {
            for (int what = 0; what < 4; what++) {
                Check.due("two(0, " + person + ")", x.two(0, person, what), false);
                Check.due("two(" + person + ", 0)", x.two(person, 0, what), false);
            }
        }
    }

    static void promise08OtherWhats() {
        SnapWed x = Check.in(Edges.village(2) + "says a w 1;says b w 1;");
        for (int what : Edges.outside(0, 3)) {
            Check.due("two(0, 1, " + what + ")", x.two(0, 1, what), false);
        }
    }

    /** "the same" */
    static void promise08TheSame() {
        SnapWed x = Check.in(Edges.village(6) + "says a w 1;says f w 1;");
        for (int what = 0; what < 4; what++) {
            Check.due("two(0, 0)", x.two(0, 0, what), false);
            Check.due("two(5, 5)", x.two(5, 5, what), false);
        }
    }

    /** "Two that are at one PLACE .. if neither is deaf, they have no dispensation and are not wed to each other" */
    static void promise08CouldSnapNeedsOnePlace() {
        SnapWed x = six();
        Check.due("at one", x.two(0, 5, 2), true);
        x.walk(5, 1);
        Check.due("at two", x.two(0, 5, 2), false);
        x.walk(0, 1);
        Check.due("at one again", x.two(5, 0, 2), true);
    }

    static void promise08CouldSnapNeedsNeitherDeaf() {
        SnapWed x = kinds();
        Check.due("the other", x.two(0, 1, 2), false);
        Check.due("the one", x.two(1, 0, 2), false);
        Check.due("stammerers hear", x.two(0, 2, 2), true);
        Check.due("echoes hear", x.two(0, 3, 2), true);
    }

    static void promise08CouldSnapNeedsNoDispensation() {
        SnapWed x = six();
        x.keep(4, 5);
        Check.due("kept", x.two(4, 5, 2), false);
        Check.due("kept", x.two(5, 4, 2), false);
        Check.due("with others", x.two(3, 5, 2), true);
        Check.due("has one", x.two(5, 4, 1), true);
        Check.due("has none", x.two(3, 5, 1), false);
    }

    static void promise08CouldSnapNeedsNotWed() {
        SnapWed x = six();
        Edges.snap(x, 0, 4, 5);
        Check.due("wed", x.two(5, 4, 0), true);
        Check.due("wed can't", x.two(5, 4, 2), false);
        Check.due("wed to another can", x.two(5, 3, 2), true);
        x.part(4, 5);
        Check.due("parted can", x.two(5, 4, 2), true);
    }

    /** "CLASH: two that could SNAP by a SAYING that both may say" */
    static void promise08ClashNeedsASayingOfBoth() {
        SnapWed x = Check.in(Edges.village(3) + "says a w 1;says b v 9;says c w 1;says c v 1;");
        Check.due("none of both", x.two(0, 1, 3), false);
        Check.due("the first", x.two(0, 2, 3), true);
        Check.due("the last", x.two(2, 1, 3), true);
        x.keep(0, 2);
        Check.due("could not snap", x.two(0, 2, 3), false);
        Check.due("without odds", six().two(0, 1, 3), false);
    }

    static void promise08ClashByTheLastOfFiveSayings() {
        String more = "word x;word y;word z;says a w 1;says a x 1;says a z 1;says b v 1;says b y 1;";
        Check.due("none of both", Check.in(Edges.village(2) + more).two(0, 1, 3), false);
        Check.due("the last", Check.in(Edges.village(2) + more + "says b z 1;").two(0, 1, 3), true);
    }

    // ---- promise 9

    /** "false: others" */
    static void promise09OtherPeople() {
        SnapWed x = six();
        for (int person : Edges.outside(0, 5)) {
            Check.due("say(" + person + ", 0)", x.say(person, 0), false);
        }
        Check.due("no deed", x.count(9), 0);
        Check.due("the last", x.say(5, 1), true);
    }

    /** NONE is no SAYING here: that is HUSH */
    static void promise09OtherSayings() {
        SnapWed x = six();
        x.say(0, 1);
        for (int saying : Edges.outside(0, 1)) {
            Check.due("say(0, " + saying + ")", x.say(0, saying), false);
        }
        Check.due("no deed", x.count(9), 1);
        Check.due("what he was to say stays", x.person(0, 3), 1);
    }

    /** "(any one, in place of another one)" */
    static void promise09InPlaceOfAnother() {
        SnapWed x = six();
        Check.due("without odds", x.say(0, 0), true);
        Check.due("another", x.say(0, 1), true);
        Check.due("the last one counts", x.person(0, 3), 1);
        Check.due("the same again", x.say(0, 1), true);
        Check.due("all three can be undone", x.count(9), 3);
    }

    static void promise09OthersStayAsTheyAre() {
        SnapWed x = six();
        x.say(2, 1);
        for (int person = 0; person < 6; person++) {
            Check.due("to say", x.person(person, 3), person == 2 ? 1 : -1);
        }
    }

    // ---- promise 10

    /** "false: others" */
    static void promise10OtherPeople() {
        SnapWed x = six();
        for (int person : Edges.outside(0, 5)) {
            Check.due("hush(" + person + ")", x.hush(person), false);
        }
        Check.due("no deed", x.count(9), 0);
    }

    /** "HUSH: true": also one who is to say none */
    static void promise10OneWhoIsToSayNone() {
        SnapWed x = six();
        Check.due("hush", x.hush(5), true);
        Check.due("a deed", x.count(9), 1);
        Check.due("none", x.person(5, 3), -1);
    }

    static void promise10HushedSayNothing() {
        SnapWed x = six();
        Edges.sayAll(x, 0, 0, 1, 2);
        Check.due("hush", x.hush(1), true);
        Check.due("the two others", x.moment(), 1 << 1);
    }

    /** a stammerer UTTERS what he was to say: hushed now he is silent in the next MOMENT */
    static void promise10AHushedStammererIsSilentLater() {
        SnapWed x = kinds();
        x.say(2, 0);
        x.moment();
        x.say(2, 1);
        x.hush(2);
        Check.due("still", x.person(2, 4), 0);
        x.moment();
        Check.due("none", x.person(2, 4), -1);
    }

    // ---- promise 11

    /** "false: others" */
    static void promise11OtherPeople() {
        SnapWed x = six();
        for (int person : Edges.outside(0, 5)) {
            Check.due("walk(" + person + ", 1)", x.walk(person, 1), false);
        }
        Check.due("no deed", x.count(9), 0);
    }

    static void promise11OtherPlaces() {
        SnapWed x = six();
        for (int place : Edges.outside(0, 1)) {
            Check.due("walk(0, " + place + ")", x.walk(0, place), false);
        }
        Check.due("he stays", x.person(0, 1), 0);
        Check.due("no deed", x.count(9), 0);
    }

    /** "WALK: to another PLACE than his" .. "he is there" */
    static void promise11HeIsThere() {
        SnapWed x = six();
        Check.due("there", x.walk(5, 0), false);
        Check.due("away", x.walk(5, 1), true);
        Check.due("there", x.walk(5, 1), false);
        Check.due("back", x.walk(5, 0), true);
        Check.due("two deeds", x.count(9), 2);
    }

    static void promise11TheLastOfFourPlaces() {
        SnapWed x = Check.in("place m;place n;place o;place p;person a plain at m shy 0;");
        Check.due("walk", x.walk(0, 3), true);
        Check.due("place", x.person(0, 1), 3);
        Check.due("no fifth", x.walk(0, 4), false);
    }

    // ---- promise 12

    static void promise12SilenceWedsNobody() {
        SnapWed x = six();
        Check.due("silence", x.moment(), 0);
        Check.due("pairs", x.count(4), 0);
        Check.due("a deed", x.count(9), 1);
    }

    /** "pairs that are wed by it, as bits" .. "of six PEOPLE, be they there or not" */
    static void promise12EachPairHasItsBit() {
        int bit = 0;
        for (int one = 0; one < 6; one++) {
            for (int other = one + 1; other < 6; other++) {
                SnapWed x = six();
                Check.due(one + " and " + other, Edges.snap(x, 1, one, other), 1 << bit);
                Check.due("count(4)", x.count(4), 1 << bit);
                bit++;
            }
        }
        SnapWed three = Check.in(Edges.village(3));
        Check.due("of three people", Edges.snap(three, 0, 1, 2), 1 << 5);
    }

    static void promise12AllOfSixAtOnce() {
        Check.due("fifteen pairs", Edges.snap(six(), 0, 0, 1, 2, 3, 4, 5), ALL_PAIRS);
    }

    static void promise12OnlyThoseWedByItAreAnswered() {
        SnapWed x = six();
        Check.due("the first", Edges.snap(x, 0, 0, 1), 1);
        Check.due("wed to each other already", Edges.snap(x, 0, 0, 1), 0);
        Check.due("the new ones alone", Edges.snap(x, 0, 0, 1, 2), 1 << 1 | 1 << 5);
        Check.due("all", x.count(4), 1 | 1 << 1 | 1 << 5);
    }

    static void promise12AnotherSayingIsNoSnap() {
        SnapWed x = six();
        x.say(0, 0);
        x.say(1, 1);
        Check.due("two sayings", x.moment(), 0);
    }

    static void promise12AnotherPlaceIsNoSnap() {
        SnapWed x = six();
        x.walk(0, 1);
        Check.due("two places", Edges.snap(x, 0, 0, 1), 0);
        x.walk(1, 1);
        Check.due("one place", Edges.snap(x, 0, 0, 1), 1);
    }

    static void promise12TheDeafDontSnap() {
        SnapWed x = kinds();
        Check.due("plain and deaf", Edges.snap(x, 0, 0, 1), 0);
    }

    static void promise12ADispensationIsNoSnap() {
        SnapWed x = six();
        x.keep(0, 1);
        Check.due("kept", Edges.snap(x, 0, 0, 1), 0);
    }

    /** "a stammerer what he was to say in the MOMENT ahead of it (none in the first one)" */
    static void promise12TheStammerersFirstMoment() {
        SnapWed x = kinds();
        x.walk(3, 1);
        Check.due("none in the first", Edges.snap(x, 0, 0, 2), 0);
        Check.due("in the second", Edges.snap(x, 0, 0), 1 << 1);
        SnapWed two = Check.in("word w;place p;person a stammer at p shy 0;person b stammer at p shy 0;");
        Check.due("two in the first", Edges.snap(two, 0, 0, 1), 0);
        Check.due("two in the second", two.moment(), 1);
        Check.due("none in the third", two.person(0, 4), -1);
    }

    static void promise12AStammererSaysItAtHisNewPlace() {
        SnapWed x = kinds();
        x.say(2, 0);
        x.moment();
        x.walk(2, 1);
        x.walk(0, 1);
        Check.due("where he is now", Edges.snap(x, 0, 0, 4), 1 << 1);
    }

    /** "an echo that is to say none the SAYING that was UTTERED at his PLACE in the MOMENT ahead of it .. if any was" */
    static void promise12AnEchoOfNothing() {
        SnapWed x = kinds();
        x.moment();
        Check.due("nothing was uttered", x.person(3, 4), -1);
        x.say(0, 0);
        x.moment();
        Check.due("w was", x.person(3, 4), 0);
        x.walk(3, 1);
        Check.due("not there", x.person(3, 4), -1);
    }

    static void promise12AnEchoThatIsToSayOne() {
        SnapWed x = kinds();
        x.say(0, 0);
        x.moment();
        x.say(3, 1);
        Check.due("that one", x.person(3, 4), 1);
        Check.due("and snaps by it", Edges.snap(x, 1, 0), 1 << 2);
    }

    /** "of some the one of the PERSON of the least number" */
    static void promise12AnEchoOfSome() {
        SnapWed x = kinds();
        x.say(0, 1);
        x.say(4, 0);
        x.moment();
        Check.due("the first person's", x.person(3, 4), 1);
        x.say(1, 0);
        x.say(4, 1);
        x.moment();
        Check.due("the deaf one's", x.person(3, 4), 0);
    }

    static void promise12AnEchoOfAnEchoAndOfAStammerer() {
        SnapWed x = kinds();
        x.say(2, 1);
        x.moment();
        Check.due("what a stammerer is to say is not uttered", x.person(3, 4), -1);
        x.moment();
        Check.due("now it was", x.person(3, 4), 1);
        x.moment();
        Check.due("its own", x.person(3, 4), 1);
    }

    /** "whoever is there now" */
    static void promise12WhoeverIsThereNow() {
        SnapWed x = kinds();
        x.say(0, 1);
        x.moment();
        x.walk(0, 1);
        Check.due("he is gone, his word is not", x.person(3, 4), 1);
        x.walk(3, 1);
        Check.due("nor is it where he is", x.person(3, 4), -1);
    }

    static void promise12OnlyTheMomentAheadIsEchoed() {
        SnapWed x = kinds();
        x.walk(3, 1);
        x.say(0, 1);
        x.moment();
        x.moment();
        x.walk(3, 0);
        Check.due("two moments ago", x.person(3, 4), -1);
    }

    /** "they are wed if the E of counts is not 0" */
    static void promise12CountsOf0IsNoWedding() {
        Check.due("0", Edges.snap(Check.in(Edges.village(2) + "counts 0;"), 0, 0, 1), 0);
        Check.due("1", Edges.snap(Check.in(Edges.village(2) + "counts 1;"), 0, 0, 1), 1);
        Check.due("2", Edges.snap(Check.in(Edges.village(2) + "counts 2;"), 0, 0, 1), 1);
        Check.due("less than 0", Edges.snap(Check.in(Edges.village(2) + "counts 0 - 1;"), 0, 0, 1), 1);
        Check.due("wrapped to 0", Edges.snap(Check.in(Edges.village(2) + "counts 4096*4096*256;"), 0, 0, 1), 0);
    }

    /** "liking (the lesser PERSON's of the other one), back (the other one's of it)" */
    static void promise12LikingIsTheLesserOnes() {
        String likes = "likes a b 1;likes c a 1;likes b c 1;";
        Check.due("liking", Edges.snap(Check.in(Edges.village(3) + likes + "counts liking;"), 0, 2, 1, 0), 1 | 1 << 5);
        Check.due("back", Edges.snap(Check.in(Edges.village(3) + likes + "counts back;"), 0, 2, 1, 0), 1 << 1);
    }

    /** "pairs by the lesser PERSON, then the other one, as all is then" */
    static void promise12PairsOneByOne() {
        SnapWed once = Check.in(Edges.village(4) + "counts wives = 0;");
        Check.due("a and b, c and d", Edges.snap(once, 0, 3, 2, 1, 0), 1 | 1 << 9);
        SnapWed x = Check.in(Edges.village(4) + "counts wives < 2;");
        Check.due("a and b, a and c, b and d", Edges.snap(x, 0, 0, 1, 2, 3), 1 | 1 << 1 | 1 << 6);
    }

    /** "Then it is the next MOMENT; nobody is to say anything." */
    static void promise12TheNextMoment() {
        SnapWed x = kinds();
        Edges.sayAll(x, 1, 0, 1, 2, 3, 4);
        x.moment();
        Check.due("moment", x.count(3), 1);
        for (int person = 0; person < 5; person++) {
            Check.due("to say", x.person(person, 3), -1);
        }
    }

    // ---- promise 13

    /** "NONE: others" */
    static void promise13OtherPeople() {
        SnapWed x = six();
        Edges.snap(x, 0, 0, 1, 2, 3, 4, 5);
        for (int person : Edges.outside(0, 5)) {
            Check.due("part(0, " + person + ")", x.part(0, person), -1);
            Check.due("part(" + person + ", 0)", x.part(person, 0), -1);
        }
        Check.due("no deed", x.count(9), 7);
        Check.due("all are wed", x.count(4), ALL_PAIRS);
    }

    static void promise13TheSame() {
        SnapWed x = six();
        Edges.snap(x, 0, 0, 1, 2, 3, 4, 5);
        for (int person = 0; person < 6; person++) {
            Check.due("himself", x.part(person, person), -1);
        }
        Check.due("no deed", x.count(9), 7);
    }

    /** "they are not wed" */
    static void promise13NotWed() {
        SnapWed x = six();
        Edges.snap(x, 0, 0, 1);
        Check.due("wed to another", x.part(0, 2), -1);
        Check.due("nothing paid", x.count(6), 0);
        Check.due("no deed", x.count(9), 3);
        Check.due("wed", x.part(1, 0), 1);
        Check.due("no more", x.part(0, 1), -1);
        Check.due("one deed", x.count(9), 4);
        Check.due("paid once", x.count(6), 1);
    }

    static void promise13TheyArePartedAloneOfAll() {
        SnapWed x = six();
        Edges.snap(x, 0, 0, 1, 2, 3, 4, 5);
        Check.due("the last pair", x.part(5, 4), 1);
        Check.due("fourteen are left", x.count(4), ALL_PAIRS & ~(1 << 14));
        Check.due("the first pair", x.part(0, 1), 1);
        Check.due("thirteen are left", x.count(4), ALL_PAIRS & ~(1 << 14 | 1));
    }

    /** "the E of parts (0 to 999)" */
    static void promise13PaidFrom0() {
        Check.due("0", Edges.paidBy("parts 0;"), 0);
        Check.due("1", Edges.paidBy("parts 1;"), 1);
        Check.due("less than 0", Edges.paidBy("parts 0 - 1;"), 0);
        Check.due("far less", Edges.paidBy("parts 0 - 9999 * 9999;"), 0);
        Check.due("the least int", Edges.paidBy("parts 4096 * 4096 * 128;"), 0);
    }

    static void promise13PaidTo999() {
        Check.due("998", Edges.paidBy("parts 998;"), 998);
        Check.due("999", Edges.paidBy("parts 999;"), 999);
        Check.due("1000", Edges.paidBy("parts 1000;"), 999);
        Check.due("9999", Edges.paidBy("parts 9999;"), 999);
        Check.due("the greatest int", Edges.paidBy("parts 4096 * 4096 * 128 - 1;"), 999);
    }

    static void promise13PartedForNothingIsADeed() {
        SnapWed x = Check.in(Edges.village(2) + "parts 0;");
        Edges.snap(x, 0, 0, 1);
        Check.due("for nothing", x.part(0, 1), 0);
        Check.due("no more wed", x.count(4), 0);
        Check.due("a deed", x.count(9), 4);
    }

    static void promise13WhatIsPaidAddsUp() {
        SnapWed x = Check.in(Edges.village(6) + "parts 9999;");
        Edges.snap(x, 0, 0, 1, 2, 3, 4, 5);
        int paid = 0;
        for (int one = 0; one < 6; one++) {
            for (int other = one + 1; other < 6; other++) {
                Check.due("paid", x.part(one, other), 999);
                paid += 999;
                Check.due("paid in all", x.count(6), paid);
            }
        }
    }

    /** "wives (to how many PEOPLE each of both is wed now, added up, each other too)" */
    static void promise13WivesOfBothNow() {
        Check.due("each other", Edges.paidBy("parts wives;"), 2);
        SnapWed x = Check.in(Edges.village(6) + "parts wives;");
        Edges.snap(x, 0, 0, 1, 2, 3, 4, 5);
        Check.due("five each", x.part(5, 0), 10);
        Check.due("four and five", x.part(0, 4), 9);
        Check.due("three and five", x.part(3, 0), 8);
    }

    static void promise13LikingAndBackEitherWayRound() {
        String law = "likes a b 3;likes b a 8;parts liking * 10 + back;";
        Check.due("a and b", Edges.paidBy(law), 38);
        SnapWed x = Check.in(Edges.village(2) + law);
        Edges.snap(x, 0, 0, 1);
        Check.due("b and a", x.part(1, 0), 38);
    }

    static void promise13TheLeastAndTheGreatestNumber() {
        Check.due("0", Edges.paidBy("likes a b 7;likes b a 8;parts 5 + 0;"), 5);
        Check.due("0000", Edges.paidBy("likes a b 7;likes b a 8;parts 5 + 0000;"), 5);
        Check.due("9999", Edges.paidBy("parts 9999 - 9990;"), 9);
        Check.due("0009", Edges.paidBy("parts 0009;"), 9);
    }

    /** "ints wrap" */
    static void promise13LawsWrap() {
        Check.due("products", Edges.paidBy("parts 4096 * 4096 * 256 + 17;"), 17);
        Check.due("sums", Edges.paidBy("parts 4096*4096*127 + 4096*4096 < 0;"), 1);
        Check.due("differences", Edges.paidBy("parts 0 < 0 - 4096*4096*128 - 1;"), 1);
    }

    /** "Of not, and, or, < and = comes 1 or 0; what is not 0 is so" */
    static void promise13TestsAre1Or0() {
        String[] ones = {"not 0", "5 and 0 - 3", "0 or 7", "7 or 0", "7 or 7", "1 < 2", "7 = 7", "not not 7"};
        String[] zeros = {"not 7", "not (0 - 1)", "7 and 0", "0 and 7", "0 and 0", "0 or 0", "2 < 2", "3 < 2", "7 = 8"};
        for (String law : ones) {
            Check.due(law, Edges.paidBy("parts " + law + ";"), 1);
        }
        for (String law : zeros) {
            Check.due(law, Edges.paidBy("parts 5 + (" + law + ");"), 5);
        }
    }

    /** "TEST { and TEST or or TEST }, from the left" */
    static void promise13FromTheLeft() {
        Check.due("or, then and", Edges.paidBy("parts 1 or 1 and 0;"), 0);
        Check.due("and, then or", Edges.paidBy("parts 0 and 1 or 1;"), 1);
        Check.due("differences", Edges.paidBy("parts 9 - 3 - 2;"), 4);
        Check.due("sum and difference", Edges.paidBy("parts 9 - 3 + 2;"), 8);
        Check.due("products first", Edges.paidBy("parts 2 + 3 * 4 - 5 * 2;"), 4);
        Check.due("not of a PART alone", Edges.paidBy("parts not 0 + 5;"), 6);
        Check.due("sums ahead of <", Edges.paidBy("parts 1 + 1 < 1 + 2;"), 1);
    }

    static void promise13TheDeepestLaw() {
        Check.due("four brackets", Edges.paidBy("parts 1 + 2 * (3 + 2 * (4 + 2 * (5 + 2 * (6 + 2 * 7))));"), 383);
        Check.due("four levels of all signs", Edges.paidBy("parts " + "0 or 0 = 1 - 1 * (".repeat(4)
                + "0 or 0 = 1 - 1 * 1" + "))));"), 1);
    }

    static void promise13TheLongestLaw() {
        String likes = "word w;word v;place p;person a plain at p shy 0;person b plain at p shy 0;parts 1";
        int more = (1000 - 1 - likes.length()) / 2;
        SnapWed x = Check.in(likes + "+1".repeat(more) + ";");
        Edges.snap(x, 0, 0, 1);
        Check.due("all are added", x.part(0, 1), 1 + more);
    }

    // ---- promise 14

    /** "false: others" */
    static void promise14OtherPeople() {
        SnapWed x = six();
        for (int person : Edges.outside(0, 5)) {
            Check.due("keep(0, " + person + ")", x.keep(0, person), false);
            Check.due("keep(" + person + ", 0)", x.keep(person, 0), false);
        }
        Check.due("no deed", x.count(9), 0);
        Check.due("no dispensation", x.count(5), 0);
    }

    /** "the same" */
    static void promise14TheSame() {
        SnapWed x = six();
        for (int person = 0; person < 6; person++) {
            Check.due("himself", x.keep(person, person), false);
        }
        Check.due("no dispensation", x.count(5), 0);
    }

    /** "they have one" */
    static void promise14TheyHaveOne() {
        SnapWed x = Check.in(Edges.village(6) + "kept f a;");
        Check.due("told", x.keep(0, 5), false);
        Check.due("told", x.keep(5, 0), false);
        Check.due("by hand", x.keep(5, 4), true);
        Check.due("again", x.keep(4, 5), false);
        Check.due("one deed", x.count(9), 1);
        Check.due("two pairs", x.count(5), 1 << 4 | 1 << 14);
    }

    static void promise14AllPairs() {
        SnapWed x = six();
        int kept = 0;
        int bit = 0;
        for (int one = 0; one < 6; one++) {
            for (int other = one + 1; other < 6; other++) {
                Check.due("keep", x.keep(other, one), true);
                kept |= 1 << bit;
                bit++;
                Check.due("dispensations", x.count(5), kept);
            }
        }
        Check.due("nobody is wed", Edges.snap(x, 0, 0, 1, 2, 3, 4, 5), 0);
    }

    /** "(if they are wed they stay so)" */
    static void promise14TheWedStaySo() {
        SnapWed x = six();
        Edges.snap(x, 0, 0, 5);
        Check.due("keep", x.keep(0, 5), true);
        Check.due("wed", x.two(0, 5, 0), true);
        Check.due("part", x.part(0, 5), 1);
        Check.due("not again", Edges.snap(x, 0, 0, 5), 0);
    }

    // ---- promise 15

    /** "false: nothing can be" */
    static void promise15NothingCanBeUndone() {
        SnapWed x = six();
        Check.due("undo", x.undo(), false);
        Check.due("one deed", x.say(0, 0), true);
        Check.due("undone", x.undo(), true);
        Check.due("no more", x.undo(), false);
        Check.due("nothing to say", x.person(0, 3), -1);
    }

    static void promise15EachDeedIsUndone() {
        SnapWed x = Check.in(Edges.village(3) + "kept b c;parts 7;");
        x.say(0, 1);
        Check.due("say", x.say(0, 0) && x.undo(), true);
        Check.due("what he was to say", x.person(0, 3), 1);
        Check.due("hush", x.hush(0) && x.undo(), true);
        Check.due("what he was to say", x.person(0, 3), 1);
        Check.due("walk", x.walk(0, 1) && x.undo(), true);
        Check.due("where he was", x.person(0, 1), 0);
        x.say(1, 1);
        Check.due("moment", x.moment(), 1);
        x.part(0, 1);
        Check.due("undo of part", x.undo(), true);
        Check.due("wed", x.count(4), 1);
        Check.due("paid", x.count(6), 0);
        Check.due("keep", x.keep(0, 1) && x.undo(), true);
        Check.due("dispensations", x.count(5), 1 << 5);
        Check.due("undo of the moment", x.undo(), true);
        Check.due("not wed", x.count(4), 0);
        Check.due("moment 0", x.count(3), 0);
        Check.due("to say again", x.person(1, 3), 1);
    }

    static void promise15AMomentIsUndoneForStammerersAndEchoes() {
        SnapWed x = kinds();
        x.say(2, 1);
        x.say(0, 0);
        x.moment();
        x.moment();
        Check.due("undo", x.undo(), true);
        Check.due("stammerer", x.person(2, 4), 1);
        Check.due("echo", x.person(3, 4), 0);
        Check.due("undo", x.undo(), true);
        Check.due("stammerer", x.person(2, 4), -1);
        Check.due("echo", x.person(3, 4), -1);
    }

    /** "the last 16, one by one" */
    static void promise15Sixteen() {
        SnapWed x = six();
        for (int i = 1; i <= 16; i++) {
            x.moment();
            Check.due("deeds", x.count(9), i);
        }
        for (int i = 15; i >= 0; i--) {
            Check.due("undo", x.undo(), true);
            Check.due("moment", x.count(3), i);
            Check.due("deeds", x.count(9), i);
        }
        Check.due("no more", x.undo(), false);
    }

    static void promise15TheSeventeenthDrivesOutTheFirst() {
        SnapWed x = six();
        for (int i = 0; i < 17; i++) {
            x.moment();
        }
        Check.due("16", x.count(9), 16);
        for (int i = 0; i < 16; i++) {
            Check.due("undo", x.undo(), true);
        }
        Check.due("the first stays", x.count(3), 1);
        Check.due("no more", x.undo(), false);
    }

    static void promise15UndoingAndDoingInTurns() {
        SnapWed x = six();
        for (int i = 0; i < 40; i++) {
            x.moment();
            x.moment();
            Check.due("undo", x.undo(), true);
        }
        Check.due("40 moments", x.count(3), 40);
        Check.due("of 16 one is undone", x.count(9), 15);
        for (int i = 0; i < 15; i++) {
            Check.due("undo", x.undo(), true);
            Check.due("moment", x.count(3), 39 - i);
        }
        Check.due("no more", x.undo(), false);
    }

    static void promise15RefusedCallsAreNoDeeds() {
        SnapWed x = six();
        x.say(0, 1);
        x.say(6, 0);
        x.say(0, 2);
        x.hush(6);
        x.walk(0, 0);
        x.part(0, 1);
        x.keep(0, 0);
        Check.due("one deed", x.count(9), 1);
        Check.due("undo", x.undo(), true);
        Check.due("the say is undone", x.person(0, 3), -1);
    }

    /** "all of these": what is heard, fed, read, marked and asked is none of them */
    static void promise15OtherCallsAreNoDeeds() {
        SnapWed x = six();
        x.hear(0);
        Check.due("a day", Check.day(x, "moment;"), 0);
        x.mark(0, false);
        Edges.portrait(x);
        Check.due("no deed", x.count(9), 0);
        Check.due("nothing can be", x.undo(), false);
        Check.due("heard", x.count(8), 1);
        Check.due("the day", x.count(7), 1);
    }

    static void promise15WhatWasHeardSinceStays() {
        SnapWed x = six();
        x.say(0, 0);
        x.hear(1);
        Check.due("undo", x.undo(), true);
        Check.due("heard", x.count(8), 1);
    }

    static void promise15AnUndoCantBeUndone() {
        SnapWed x = six();
        x.say(0, 0);
        x.say(0, 1);
        x.undo();
        Check.due("one is left", x.count(9), 1);
        x.undo();
        Check.due("back to the start", x.person(0, 3), -1);
    }
}
