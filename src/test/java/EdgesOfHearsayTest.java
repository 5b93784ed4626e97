import java.util.NoSuchElementException;

/** Boundary cases of promises 29 to 36, hearsay, windows, generations, marks and counts: a test for each sentence. */
public final class EdgesOfHearsayTest {
    private static final int THROWS = 777777;

    private EdgesOfHearsayTest() {
    }

    public static void main(String[] args) throws IllegalAccessException {
        Edges.run(EdgesOfHearsayTest.class, 29, 36);
    }

    private static SnapWed village(int people, String more) {
        return Check.in(Edges.village(people) + more);
    }

    private static void hearAll(SnapWed x, int... sayings) {
        for (int saying : sayings) {
            Check.due("hear(" + saying + ")", x.hear(saying), true);
        }
    }

    // ---- promise 29

    /** "false: others": NONE is one that can be heard */
    static void promise29OtherSayings() {
        SnapWed x = village(2, "");
        for (int saying : Edges.outside(-1, 1)) {
            Check.due("hear(" + saying + ")", x.hear(saying), false);
        }
        Check.due("nothing heard", x.count(8), 0);
        Check.due("the last one", x.hear(1), true);
    }

    /** "(NONE: none)" */
    static void promise29NoneCanBeHeard() {
        SnapWed x = new SnapWed();
        Check.due("without a province", x.hear(-1), true);
        Check.due("heard", x.count(8), 1);
        Check.due("there is no saying", x.hear(0), false);
    }

    /** "5 at most" .. "5 there are" */
    static void promise29FiveAtMost() {
        SnapWed x = village(2, "");
        for (int i = 1; i <= 5; i++) {
            Check.due("hear", x.hear(i % 2), true);
            Check.due("heard", x.count(8), i);
        }
        Check.due("a sixth", x.hear(0), false);
        Check.due("a sixth none", x.hear(-1), false);
        Check.due("heard", x.count(8), 5);
    }

    /** the fifth counts as the first does, and a sixth that was refused does not */
    static void promise29TheFifthCounts() {
        SnapWed x = village(2, "says a w 1;says b w 1;says b v 1;");
        hearAll(x, 0, 0, 0, 0, 1);
        Check.due("b alone", x.who(), 2);
        SnapWed y = village(2, "says a w 1;says b w 1;says b v 1;");
        hearAll(y, 0, 0, 0, 0, 0);
        Check.due("refused", y.hear(1), false);
        Check.due("both", y.who(), 3);
    }

    static void promise29FiveAgainInANewProvince() {
        SnapWed x = village(2, "");
        hearAll(x, 0, 0, 0, 0, 0);
        Check.due("anew", Check.province(x, Edges.village(2)), 0);
        hearAll(x, -1, 0, 1, 0, -1);
        Check.due("a sixth", x.hear(0), false);
    }

    // ---- promise 30

    static void promise30NothingHeard() {
        Check.due("all six", village(6, "").who(), 63);
        Check.due("nobody", Check.in("word w;place p;").who(), 0);
    }

    /** "PEOPLE who may all that (odds above 0" */
    static void promise30WhoMayAll() {
        SnapWed x = village(6, "says a w 1;says b v 9;says f w 1;says f v 1;");
        hearAll(x, 0);
        Check.due("a and f", x.who(), 1 | 1 << 5);
        hearAll(x, 1);
        Check.due("f", x.who(), 1 << 5);
        hearAll(x, 0);
        Check.due("f", x.who(), 1 << 5);
        hearAll(x, -1);
        Check.due("nobody", x.who(), 0);
    }

    /** "none: shy above 0, or no odds at all" */
    static void promise30WhoMaySayNone() {
        SnapWed x = Check.in("word w;place p;person a plain at p shy 0;person b plain at p shy 1;person c plain at p shy 0;"
                + "person d plain at p shy 1;says c w 1;says d w 1;");
        hearAll(x, -1);
        Check.due("all but c", x.who(), 0b1011);
        hearAll(x, 0);
        Check.due("d alone", x.who(), 0b1000);
    }

    static void promise30PlacesAndKindsAreOfNoMatter() {
        SnapWed x = Check.in("word w;place p;place q;person a deaf at p shy 0;person b stammer at q shy 0;says a w 1;"
                + "says b w 1;");
        hearAll(x, 0);
        Check.due("both", x.who(), 3);
    }

    // ---- promise 31

    /** "NONE: nobody" */
    static void promise31Nobody() {
        Check.due("without people", Check.in("word w;").likely(), -1);
        SnapWed x = village(6, "says a w 1;");
        hearAll(x, 1);
        Check.due("nobody may", x.likely(), -1);
    }

    static void promise31NothingHeard() {
        Check.due("all are equal: the first", village(6, "says f w 1;").likely(), 0);
    }

    /** "of equal ones the first" */
    static void promise31OfEqualOnesTheFirst() {
        SnapWed x = village(3, "says b w 1;says b v 1;says c w 9;says c v 9;");
        hearAll(x, 0);
        Check.due("a half is a half", x.likely(), 1);
        hearAll(x, 1, 0, 1, 0);
        Check.due("after five, too", x.likely(), 1);
    }

    static void promise31JustGreater() {
        SnapWed x = village(3, "says a w 8;says a v 9;says b w 7;says b v 8;says c w 9;says c v 9;");
        hearAll(x, 0);
        Check.due("9 of 18", x.likely(), 2);
        hearAll(x, 0, 0, 0, 0);
        Check.due("after five, too", x.likely(), 2);
    }

    static void promise31TwoThirdsAreMoreThanAHalf() {
        SnapWed x = village(2, "says a w 1;says a v 1;says b w 2;says b v 1;");
        hearAll(x, 0);
        Check.due("b", x.likely(), 1);
        hearAll(x, 1);
        Check.due("a quarter is more than two ninths", x.likely(), 0);
    }

    static void promise31OnlyOneOfWho() {
        SnapWed x = village(3, "says a w 9;says b w 1;says b v 9;");
        hearAll(x, 0);
        Check.due("a, for sure", x.likely(), 0);
        hearAll(x, 1);
        Check.due("b alone may", x.likely(), 1);
    }

    /** who has no odds at all says none for sure */
    static void promise31SilentForSure() {
        SnapWed x = Check.in("word w;place p;person a plain at p shy 9;person b plain at p shy 0;person c plain at p shy 9;"
                + "says a w 1;");
        hearAll(x, -1, -1, -1, -1, -1);
        Check.due("b, ahead of c", x.likely(), 1);
        SnapWed y = Check.in("word w;place p;person a plain at p shy 9;person b plain at p shy 0;");
        hearAll(y, -1);
        Check.due("a is as silent as b", y.likely(), 0);
    }

    // ---- promise 32

    /** "-2: none parts them" */
    static void promise32NonePartsThem() {
        Check.due("all may the same", village(3, "says a w 1;says b w 2;says c w 9;").ask(), -2);
        Check.due("one alone", village(1, "says a w 1;").ask(), -2);
        Check.due("nobody", Check.in("word w;").ask(), -2);
        SnapWed x = village(3, "says a w 1;");
        hearAll(x, 1);
        Check.due("nobody of who", x.ask(), -2);
    }

    /** "(NONE ahead of all)" .. "NONE: none said" */
    static void promise32NoneIsTheFirst() {
        Check.due("none parts them as well as w", village(2, "says a w 1;").ask(), -1);
        Check.due("v alone parts them", village(2, "says a w 1;says b w 1;says b v 1;").ask(), 1);
    }

    /** "of equal ones the first" */
    static void promise32OfEqualOnesTheFirst() {
        Check.due("w and v part them", village(2, "says a w 1;says b v 1;").ask(), 0);
    }

    /** "the greater number of WHO who may, or may not, is the least" */
    static void promise32TheGreaterNumberIsTheLeast() {
        Check.due("two who may, ahead of one",
                village(4, "word u;says a w 1;says a v 1;says b v 1;says b u 1;says c u 1;says d u 1;").ask(), 1);
        Check.due("two who may, ahead of three",
                village(4, "says a w 1;says b w 1;says c w 1;says c v 1;says d v 1;").ask(), 1);
        Check.due("three who may, or one", village(4, "says a w 1;says b w 1;says c w 1;says d v 1;").ask(), 0);
    }

    static void promise32TheLastOfFiveSayings() {
        String more = "word x;word y;word z;says a w 1;says b w 1;";
        Check.due("none of five", village(2, more).ask(), -2);
        Check.due("the last", village(2, more + "says b z 1;").ask(), 4);
    }

    /** "if that is less than all" */
    static void promise32LessThanAll() {
        SnapWed x = village(3, "says a w 1;says b w 1;says c v 1;");
        hearAll(x, 0);
        Check.due("of a and b none is parted", x.ask(), -2);
    }

    static void promise32OnlyWhoMayCounts() {
        SnapWed x = village(4, "says a w 1;says a v 1;says b w 1;says c v 1;says d v 1;");
        Check.due("three or one by w is less than all", x.ask(), 0);
        hearAll(x, 0);
        Check.due("v parts a and b", x.ask(), 1);
    }

    static void promise32WhenFiveWereHeard() {
        SnapWed x = village(2, "says a w 1;says b w 1;says b v 1;");
        hearAll(x, 0, 0, 0, 0, 0);
        Check.due("v would part them", x.ask(), 1);
    }

    // ---- promise 33

    private static int rests(int gets, int loses, int what) {
        try {
            return new SnapWed().rests(gets, loses, what);
        } catch (NoSuchElementException e) {
            return THROWS;
        }
    }

    /** "NoSuchElementException: others" */
    static void promise33OtherGains() {
        for (int gets : Edges.outside(0, 9)) {
            Check.due("rests(" + gets + ", 1, NONE)", rests(gets, 1, -1), THROWS);
            Check.due("rests(" + gets + ", 1, 0)", rests(gets, 1, 0), THROWS);
        }
    }

    static void promise33OtherLosses() {
        for (int loses : Edges.outside(0, 9)) {
            Check.due("rests(1, " + loses + ", NONE)", rests(1, loses, -1), THROWS);
            Check.due("rests(1, " + loses + ", 0)", rests(1, loses, 0), THROWS);
        }
    }

    static void promise33OtherWhats() {
        for (int what : Edges.outside(-1, 3)) {
            Check.due("rests(1, 1, " + what + ")", rests(1, 1, what), THROWS);
        }
    }

    /** "gets so much (0 to 9)", "loses so much (0 to 9)" */
    static void promise33LeastAndMost() {
        int[] row = {0, 5, 10, 15};
        for (int i = 0; i < 4; i++) {
            Check.due("most of both", rests(9, 9, i), row[i]);
            Check.due("most to get", rests(9, 0, i), row[i]);
            Check.due("most to lose", rests(0, 9, i), row[i]);
            Check.due("least of both above 0", rests(1, 1, i), row[i]);
        }
        Check.due("most of both", rests(9, 9, -1), 4);
        Check.due("most to get", rests(9, 0, -1), 4);
        Check.due("most to lose", rests(0, 9, -1), 4);
    }

    /** who would get as much would not get more */
    static void promise33NothingToGetOrLose() {
        Check.due("all are at rest", rests(0, 0, -1), 16);
        for (int i = 0; i < 16; i++) {
            Check.due("rest " + i, rests(0, 0, i), i);
        }
    }

    /** "none such" */
    static void promise33NoneSuch() {
        Check.due("a fifth of four", rests(3, 2, 4), THROWS);
        Check.due("a fifth of four", rests(3, 0, 4), THROWS);
        Check.due("a 17th of 16", rests(0, 0, 16), THROWS);
    }

    static void promise33NothingIsLeftBehindAThrow() {
        SnapWed x = village(2, "");
        String before = Edges.portrait(x);
        boolean threw = false;
        try {
            x.rests(10, 0, -1);
        } catch (NoSuchElementException e) {
            threw = true;
        }
        Check.due("threw", threw, true);
        Edges.same("rests", before, Edges.portrait(x));
    }

    // ---- promise 34

    private static SnapWed sure() {
        return Check.in("word w;place p;person a plain at p shy 0;person b plain at p shy 0;person c plain at p shy 0;"
                + "says a w 1;says b w 1;says c w 1;");
    }

    /** "a SEED (0 to 9999)" */
    static void promise34OtherSeeds() {
        SnapWed x = sure();
        for (int seed : Edges.outside(0, 9999)) {
            for (int what = 0; what < 3; what++) {
                Check.due("generations(" + seed + ", 1, " + what + ")", x.generations(seed, 1, what), -1);
            }
        }
        Check.due("the least", x.generations(0, 1, 0), 3);
        Check.due("the greatest", x.generations(9999, 1, 0), 3);
    }

    /** "so many moments (1 to 60)" */
    static void promise34OtherMoments() {
        SnapWed x = sure();
        for (int moments : Edges.outside(1, 60)) {
            for (int what = 0; what < 3; what++) {
                Check.due("generations(1, " + moments + ", " + what + ")", x.generations(1, moments, what), -1);
            }
        }
        Check.due("one", x.generations(1, 1, 2), 1);
        Check.due("sixty", x.generations(1, 60, 2), 1);
    }

    /** "NONE: others" */
    static void promise34OtherWhats() {
        SnapWed x = sure();
        for (int what : Edges.outside(0, 2)) {
            Check.due("generations(1, 1, " + what + ")", x.generations(1, 1, what), -1);
        }
    }

    static void promise34WithoutPeople() {
        for (int what = 0; what < 3; what++) {
            Check.due("places alone", Check.in("word w;place p;").generations(3, 60, what), 0);
            Check.due("words alone", Check.in("word w;").generations(3, 60, what), 0);
            Check.due("nothing", new SnapWed().generations(3, 60, what), 0);
        }
    }

    static void promise34WithoutWords() {
        SnapWed x = Check.in("place p;place q;person a plain at p shy 9;person b echo at p shy 0;");
        for (int what = 0; what < 3; what++) {
            Check.due("silence", x.generations(3, 60, what), 0);
        }
    }

    /** "pairs that were wed by these": those wed ahead are not */
    static void promise34PairsWedAheadDontCount() {
        SnapWed x = sure();
        Check.due("a and b", Edges.snap(x, 0, 0, 1), 1);
        Check.due("two more", x.generations(1, 1, 0), 2);
        Check.due("all three are bigamists", x.generations(1, 1, 1), 3);
        Edges.snap(x, 0, 0, 1, 2);
        Check.due("none any more", x.generations(1, 60, 0), 0);
        Check.due("bigamists ahead count at last", x.generations(1, 60, 1), 3);
        Check.due("no moment", x.generations(1, 60, 2), 0);
    }

    /** "moments in which some were wed" */
    static void promise34MomentsInWhichSomeWereWed() {
        SnapWed x = sure();
        Check.due("three pairs in one", x.generations(5, 60, 2), 1);
    }

    /** "from now on (all is as ahead then)" */
    static void promise34AllIsAsAhead() {
        SnapWed x = Check.in("word w;place p;place q;person a stammer at p shy 1;person b echo at p shy 1;"
                + "person c plain at p shy 1;says a w 1;says b w 1;says c w 1;");
        Edges.snap(x, 0, 0, 2);
        x.say(0, 0);
        x.hear(0);
        String before = Edges.portrait(x);
        x.generations(17, 60, 0);
        Edges.same("generations", before, Edges.portrait(x));
    }

    static void promise34FromNowOn() {
        SnapWed x = sure();
        x.keep(0, 1);
        Check.due("kept now", x.generations(1, 9, 0), 2);
        x.keep(0, 2);
        x.keep(1, 2);
        Check.due("all kept now", x.generations(1, 9, 0), 0);
        SnapWed stammer = Check.in("word w;place p;person a stammer at p shy 0;person b plain at p shy 0;says b w 1;");
        Check.due("nothing was to be said", stammer.generations(1, 1, 0), 0);
        stammer.say(0, 0);
        stammer.moment();
        Check.due("what was to be said", stammer.generations(1, 1, 0), 1);
        SnapWed echo = Check.in("word w;place p;person a echo at p shy 0;person b plain at p shy 0;says b w 1;");
        Check.due("nothing was said", echo.generations(1, 1, 0), 0);
        echo.say(1, 0);
        echo.moment();
        Check.due("what was said", echo.generations(1, 1, 0), 1);
    }

    /** who draws nothing keeps what he is to say, who draws none does not */
    static void promise34WhatIsToBeSaidByHand() {
        SnapWed x = Check.in("word w;place p;person a plain at p shy 0;person b plain at p shy 0;says a w 1;");
        x.say(1, 0);
        Check.due("b says w", x.generations(1, 1, 0), 1);
        SnapWed shy = Check.in("word w;place p;person a plain at p shy 0;person b plain at p shy 9;says a w 1;");
        shy.say(1, 0);
        Check.due("b says none", shy.generations(1, 60, 0), 0);
    }

    /** "else none": behind the last of five sayings */
    static void promise34NoneBehindFiveSayings() {
        SnapWed x = Check.in("word v;word w;word x;word y;word z;place p;person a plain at p shy 0;"
                + "person b plain at p shy 5;says b v 1;says b w 1;says b x 1;says b y 1;says b z 1;");
        for (int saying = 0; saying < 5; saying++) {
            x.say(0, saying);
            for (int seed = 0; seed < 40; seed++) {
                Check.due("seed " + seed, x.generations(seed, 1, 0), draw(next(seed), 10) == saying ? 1 : 0);
            }
        }
    }

    /** A DRAW as the document has it, by numbers that can't run over. */
    private static long next(long g) {
        return (g * 1103515245L + 12345L) % 2147483648L;
    }

    private static long draw(long g, int below) {
        return g / 65536 % below;
    }

    /** "a DRAW below these": of 1 there is one, which is drawn all the same */
    static void promise34DrawsBelowOne() {
        // a draws below 1, b below 2: what b says is told by the second draw.
        SnapWed x = Check.in("word w;place p;person a plain at p shy 0;person b plain at p shy 1;says a w 1;says b w 1;");
        for (int seed = 0; seed < 40; seed++) {
            long second = next(next(seed));
            Check.due("seed " + seed, x.generations(seed, 1, 0), draw(second, 2) == 0 ? 1 : 0);
        }
    }

    /** "whose odds and shyness together are not 0": who has neither draws nothing */
    static void promise34WhoHasNeitherDrawsNothing() {
        SnapWed x = Check.in("word w;place p;person z plain at p shy 0;person a plain at p shy 0;person b plain at p shy 1;"
                + "says a w 1;says b w 1;");
        for (int seed = 0; seed < 40; seed++) {
            long second = next(next(seed));
            Check.due("seed " + seed, x.generations(seed, 1, 0), draw(second, 2) == 0 ? 1 : 0);
        }
    }

    /** shyness alone draws: the one who is silent for sure, too */
    static void promise34ShynessAloneDraws() {
        SnapWed x = Check.in("word w;place p;person z plain at p shy 9;person a plain at p shy 0;person b plain at p shy 1;"
                + "says a w 1;says b w 1;");
        for (int seed = 0; seed < 40; seed++) {
            long third = next(next(next(seed)));
            Check.due("seed " + seed, x.generations(seed, 1, 0), draw(third, 2) == 0 ? 1 : 0);
        }
    }

    /** "the first SAYING whose odds and those ahead of it together are more than that, else none" */
    static void promise34TheSayingThatIsDrawn() {
        SnapWed x = village(1, "person b plain at p shy 4;says b w 1;says b v 4;");
        for (int saying = 0; saying < 2; saying++) {
            x.say(0, saying);
            for (int seed = 0; seed < 40; seed++) {
                long drawn = draw(next(seed), 9);
                boolean alike = saying == 0 ? drawn < 1 : drawn >= 1 && drawn < 5;
                // Behind b's draw come those of a walk: who walks to q is not there.
                boolean walks = draw(next(next(next(seed))), 2) == 1;
                Check.due("seed " + seed, x.generations(seed, 1, 0), alike && !walks ? 1 : 0);
            }
        }
    }

    /** "a DRAW below PEOPLE, one below PLACES: that WALK, if that can be" */
    static void promise34TheWalkOfEachMoment() {
        SnapWed x = village(3, "says a w 1;says b w 1;says c w 1;");
        for (int seed = 0; seed < 40; seed++) {
            long g = next(next(next(next(next(seed)))));
            Check.due("seed " + seed, x.generations(seed, 1, 0), draw(g, 2) == 1 ? 1 : 3);
        }
    }

    static void promise34OnePlaceIsDrawnAllTheSame() {
        // In the second moment the draws go on behind those of the first moment's walk.
        SnapWed x = Check.in("word w;place p;person a plain at p shy 0;person b plain at p shy 1;says b w 1;says a w 1;");
        for (int seed = 0; seed < 40; seed++) {
            long second = next(next(seed));
            long sixth = next(next(next(next(second))));
            int want = draw(second, 2) == 0 || draw(sixth, 2) == 0 ? 1 : 0;
            Check.due("seed " + seed, x.generations(seed, 2, 0), want);
        }
    }

    /** "modulo 2147483648": by the draws of 60 moments g goes round often */
    static void promise34DrawsGoRound() {
        String text = "word w;place p;person a plain at p shy 0;person b plain at p shy 9;says a w 1;says b w 1;";
        for (int seed : new int[] {0, 1, 4999, 9998, 9999}) {
            SnapWed x = Check.in(text);
            long g = seed;
            boolean wed = false;
            for (int moment = 1; moment <= 60; moment++) {
                g = next(next(g));
                wed = wed || draw(g, 10) == 0;
                g = next(next(g));
                Check.due("seed " + seed + ", moment " + moment, x.generations(seed, moment, 0), wed ? 1 : 0);
            }
        }
    }

    // ---- promise 35

    /** "false: none such" */
    static void promise35OtherMarks() {
        SnapWed x = village(2, "");
        for (int mark : Edges.outside(0, 3)) {
            Check.due("mark(" + mark + ", false)", x.mark(mark, false), false);
            Check.due("mark(" + mark + ", true)", x.mark(mark, true), false);
        }
    }

    /** "MARKS 0 to 3", each by itself */
    static void promise35EachOfFour() {
        SnapWed x = village(2, "");
        for (int mark = 0; mark < 4; mark++) {
            Check.due("laid", x.mark(mark, false), true);
            x.moment();
        }
        for (int mark = 3; mark >= 0; mark--) {
            Check.due("back", x.mark(mark, true), true);
            Check.due("its moment", x.count(3), mark);
        }
        Check.due("the last is still there", x.mark(3, true), true);
        Check.due("its moment", x.count(3), 3);
    }

    /** "nothing is on it (back)" */
    static void promise35NothingIsOnIt() {
        SnapWed x = village(2, "");
        x.say(0, 1);
        x.mark(1, false);
        String before = Edges.portrait(x);
        for (int mark : new int[] {0, 2, 3}) {
            Check.due("back to " + mark, x.mark(mark, true), false);
        }
        Edges.same("nothing on it", before, Edges.portrait(x));
        Check.due("what can be undone stays", x.undo(), true);
    }

    static void promise35AMarkOfNothing() {
        SnapWed x = new SnapWed();
        Check.due("laid", x.mark(0, false), true);
        x.moment();
        x.hear(-1);
        Check.due("back", x.mark(0, true), true);
        Check.due("moment", x.count(3), 0);
        Check.due("heard", x.count(8), 0);
    }

    static void promise35LaidAgain() {
        SnapWed x = village(2, "");
        x.mark(2, false);
        x.moment();
        Check.due("again", x.mark(2, false), true);
        x.moment();
        Check.due("back", x.mark(2, true), true);
        Check.due("the later one", x.count(3), 1);
    }

    /** a MARK stays when it is gone back to, and what is done then is not done on it */
    static void promise35GoneBackToTwice() {
        SnapWed x = village(2, "");
        x.mark(0, false);
        for (int i = 0; i < 3; i++) {
            x.say(0, 1);
            x.walk(1, 1);
            x.hear(0);
            x.moment();
            Check.due("back", x.mark(0, true), true);
            Check.due("moment", x.count(3), 0);
            Check.due("place", x.person(1, 1), 0);
            Check.due("heard", x.count(8), 0);
        }
    }

    private static SnapWed changed() {
        SnapWed x = Check.in(Edges.village(3) + "person d stammer at p shy 0;person e echo at p shy 0;says a w 1;"
                + "says b v 1;");
        Edges.snap(x, 1, 0, 1, 3);
        x.part(0, 1);
        Edges.snap(x, 0, 1, 2);
        x.say(0, 1);
        x.say(3, 0);
        x.moment();
        x.keep(0, 2);
        x.walk(2, 1);
        x.say(0, 0);
        x.hear(0);
        return x;
    }

    /** "hold the moment, PLACES, what is to be said and was, pairs, dispensations, what was paid, HEARD" */
    static void promise35WhatAMarkHolds() {
        SnapWed x = changed();
        x.mark(3, false);
        x.mark(3, true);
        String before = Edges.portrait(x);
        Edges.snap(x, 1, 0, 1, 3);
        x.part(1, 2);
        x.part(0, 1);
        x.keep(1, 3);
        x.walk(2, 0);
        x.walk(4, 1);
        x.say(1, 1);
        x.hear(1);
        x.moment();
        Check.due("back", x.mark(3, true), true);
        Edges.same("back", before, Edges.portrait(x));
    }

    /** what was HEARD, not only how much */
    static void promise35WhatWasHeard() {
        SnapWed x = village(2, "says a w 1;says b v 1;");
        x.mark(1, false);
        x.hear(0);
        x.mark(0, false);
        x.mark(1, true);
        x.hear(1);
        Check.due("b", x.who(), 2);
        x.mark(0, true);
        Check.due("a", x.who(), 1);
    }

    /** "(nothing can be undone when one is gone back to)" */
    static void promise35NothingCanBeUndoneThen() {
        SnapWed x = village(2, "");
        x.say(0, 0);
        x.mark(0, false);
        Check.due("laying one leaves that", x.count(9), 1);
        x.say(0, 1);
        Check.due("back", x.mark(0, true), true);
        Check.due("none", x.count(9), 0);
        Check.due("undo", x.undo(), false);
        Check.due("to say", x.person(0, 3), 0);
        x.hush(0);
        Check.due("a new one can", x.undo(), true);
        Check.due("to say", x.person(0, 3), 0);
    }

    static void promise35TheDayAndTheTapeAreNotHeld() {
        SnapWed x = village(2, "");
        x.mark(0, false);
        Check.due("day", Check.day(x, "moment;moment;"), 0);
        Check.feed(x, "abc");
        Check.due("back", x.mark(0, true), true);
        Check.due("lines", x.count(7), 2);
        Check.due("signs", x.count(10), 3);
    }

    // ---- promise 36

    /** "NONE for another what" */
    static void promise36OtherWhats() {
        SnapWed x = changed();
        for (int what : Edges.outside(0, 10)) {
            Check.due("count(" + what + ")", x.count(what), -1);
        }
    }

    static void promise36SayingsPlacesAndPeopleAtMost() {
        SnapWed x = Check.in("word v;word w;word x;word y;word z;place m;place n;place o;place p;"
                + Edges.village(6).substring(Edges.village(0).length()));
        Check.due("five sayings", x.count(0), 5);
        Check.due("four places", x.count(1), 4);
        Check.due("six people", x.count(2), 6);
    }

    static void promise36MomentsGoOn() {
        SnapWed x = new SnapWed();
        for (int i = 0; i < 500; i++) {
            x.moment();
        }
        Check.due("500", x.count(3), 500);
    }

    static void promise36AllPairsAndDispensations() {
        SnapWed x = village(6, "");
        Edges.snap(x, 0, 0, 1, 2, 3, 4, 5);
        Check.due("pairs", x.count(4), 0x7fff);
        for (int one = 0; one < 6; one++) {
            for (int other = one + 1; other < 6; other++) {
                x.keep(one, other);
            }
        }
        Check.due("dispensations", x.count(5), 0x7fff);
    }

    static void promise36PaidIsNotCutTo999() {
        SnapWed x = village(3, "parts 999;");
        Edges.snap(x, 0, 0, 1, 2);
        x.part(0, 1);
        x.part(0, 2);
        Check.due("twice 999", x.count(6), 1998);
    }

    static void promise36LinesAtMost() {
        SnapWed x = village(1, "");
        Check.due("day", Check.day(x, "moment;".repeat(30)), 0);
        Check.due("30", x.count(7), 30);
    }

    static void promise36HeardAtMost() {
        SnapWed x = village(1, "");
        hearAll(x, -1, 0, 1, -1, 0);
        Check.due("5", x.count(8), 5);
    }

    static void promise36UndoneAtMost() {
        SnapWed x = village(1, "");
        for (int i = 0; i < 15; i++) {
            x.hush(0);
        }
        Check.due("15", x.count(9), 15);
        x.hush(0);
        Check.due("16", x.count(9), 16);
        x.hush(0);
        Check.due("16 still", x.count(9), 16);
    }

    static void promise36SignsAtMost() {
        SnapWed x = new SnapWed();
        Check.feed(x, "a".repeat(999));
        Check.due("999", x.count(10), 999);
        Check.feed(x, "aa");
        Check.due("1000", x.count(10), 1000);
    }
}
