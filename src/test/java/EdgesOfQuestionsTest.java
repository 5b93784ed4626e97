/** Boundary cases of promises 16 to 28, what is asked of a province: a test of its own for each sentence. */
public final class EdgesOfQuestionsTest {
    private static final int ALL_PAIRS = 0x7fff;

    private EdgesOfQuestionsTest() {
    }

    public static void main(String[] args) throws IllegalAccessException {
        Edges.run(EdgesOfQuestionsTest.class, 16, 28);
    }

    private static SnapWed village(int people, String more) {
        return Check.in(Edges.village(people) + more);
    }

    private static void judge(SnapWed x, String day, int impossible, int bigamy, int pairs) {
        Check.due("day " + day, Check.day(x, day), 0);
        Check.due("judged(0) of " + day, x.judged(0), impossible);
        Check.due("judged(1) of " + day, x.judged(1), bigamy);
        Check.due("judged(2) of " + day, x.judged(2), pairs);
    }

    // ---- promise 16

    /** "-2: others" */
    static void promise16OtherWhats() {
        SnapWed x = village(3, "");
        judge(x, "moment;walk a p;", 1, -1, 0);
        for (int what : Edges.outside(0, 2)) {
            Check.due("judged(" + what + ")", x.judged(what), -2);
        }
    }

    static void promise16NoDay() {
        SnapWed x = village(3, "");
        Check.due("no line", x.judged(0), -1);
        Check.due("no moment's line", x.judged(1), -1);
        Check.due("no pairs", x.judged(2), 0);
    }

    static void promise16AnEmptyDay() {
        SnapWed x = village(3, "");
        Edges.snap(x, 0, 0, 1, 2);
        judge(x, "", -1, -1, 0);
    }

    /** "the first line (from 0) that can't be" */
    static void promise16TheFirstLineThatCantBe() {
        judge(village(3, ""), "walk a p;", 0, -1, 0);
        judge(village(3, ""), "moment;walk a p;walk b p;", 1, -1, 0);
        judge(village(3, ""), "moment;".repeat(29) + "walk a p;", 29, -1, 0);
    }

    /** "(NONE: none)" */
    static void promise16NoLineThatCantBe() {
        judge(village(3, ""), "walk a q;walk a p;keep a b;moment;", -1, -1, 0);
    }

    /** "say, hush, moment always can" */
    static void promise16SayHushAndMomentAlwaysCan() {
        judge(village(3, ""), "hush a;hush a;say a w;say a w;say a v;hush a;moment;moment;", -1, -1, 0);
    }

    /** "WALK: to another PLACE than his" */
    static void promise16AWalkThatCantBe() {
        judge(village(3, ""), "walk a q;walk a q;", 1, -1, 0);
    }

    /** "PART two that are wed" */
    static void promise16APartThatCantBe() {
        judge(village(3, ""), "part a b;", 0, -1, 0);
        judge(village(3, ""), "say a w;say b w;moment;part b a;part a b;", 4, -1, 0);
        judge(village(3, "parts 0;"), "say a w;say b w;moment;part b a;part a b;", 4, -1, 0);
    }

    /** "KEEP: two without a dispensation" */
    static void promise16AKeepThatCantBe() {
        judge(village(3, "kept a b;"), "keep b a;", 0, -1, 0);
        judge(village(3, ""), "keep a b;keep b a;", 1, -1, 0);
    }

    /** "lines that can't be are left out": those behind them are done */
    static void promise16LinesThatCantBeAreLeftOut() {
        judge(village(3, ""), "walk a p;part a b;say a w;say b w;moment;walk a p;", 0, -1, 1);
    }

    /** "the DAY from the begin": not from now, and not from what an earlier question left */
    static void promise16FromTheBegin() {
        SnapWed x = village(3, "");
        x.walk(0, 1);
        x.keep(0, 1);
        x.say(2, 0);
        judge(x, "walk a q;walk a p;keep a b;say a w;say c w;moment;", -1, -1, 1);
        judge(x, "walk a p;", 0, -1, 0);
        judge(x, "say a w;moment;", -1, -1, 0);
        x.generations(1, 60, 0);
        x.haven(0);
        Check.due("whatever was asked ahead", x.judged(2), 0);
    }

    static void promise16TellsOfTheBeginsDispensations() {
        judge(village(3, "kept a b;"), "say a w;say b w;say c w;moment;", -1, 3, 2);
    }

    static void promise16StammerersAndEchoesFromTheBegin() {
        SnapWed x = Check.in("word w;place p;person a plain at p shy 0;person b stammer at p shy 0;"
                + "person c echo at p shy 0;");
        Edges.snap(x, 0, 0, 1);
        judge(x, "say a w;moment;", -1, -1, 0);
        judge(x, "say b w;moment;say a w;moment;", -1, -1, 1);
        judge(x, "say a w;moment;say a w;moment;", -1, -1, 1);
    }

    /** "the first moment's line behind which somebody is wed to two or more" */
    static void promise16TheFirstMomentsLine() {
        judge(village(3, ""), "say a w;say b w;say c w;moment;moment;", -1, 3, 3);
        judge(village(3, ""), "say a w;say b w;moment;say a w;say c w;moment;moment;", -1, 5, 2);
    }

    static void promise16OneSpouseIsNoBigamy() {
        judge(village(4, ""), "say a w;say b w;say c v;say d v;moment;", -1, -1, 2);
    }

    static void promise16PartedAheadOfTheMoment() {
        judge(village(3, ""), "say a w;say b w;moment;part a b;say a w;say c w;moment;", -1, -1, 1);
    }

    static void promise16PartedBehindTheMoment() {
        judge(village(3, ""), "say a w;say b w;say c w;moment;part a b;part a c;", -1, 3, 1);
    }

    static void promise16AMomentsLineThatIsTheLast() {
        judge(village(3, ""), "hush a;".repeat(26) + "say a w;say b w;say c w;moment;", -1, 29, 3);
    }

    /** "pairs that are wed at last": how many */
    static void promise16AllPairsAtLast() {
        judge(village(6, ""), "say a w;say b w;say c w;say d w;say e w;say f w;moment;", -1, 6, 15);
    }

    static void promise16NothingIsDone() {
        SnapWed x = village(3, "says a w 1;");
        Edges.snap(x, 0, 0, 1);
        x.hear(0);
        Check.due("day", Check.day(x, "walk a q;say b w;say c w;moment;keep a b;"), 0);
        String before = Edges.portrait(x);
        x.judged(0);
        Edges.same("judged", before, Edges.portrait(x));
    }

    // ---- promise 17

    /** "PEOPLE wed to two or more" .. "as bits" */
    static void promise17OneSpouseIsNoBigamist() {
        SnapWed x = village(6, "");
        Check.due("none wed", x.bigamists(), 0);
        Edges.snap(x, 0, 0, 1);
        Edges.snap(x, 0, 2, 3);
        Edges.snap(x, 0, 4, 5);
        Check.due("one each", x.bigamists(), 0);
    }

    static void promise17TwoSpouses() {
        SnapWed x = village(6, "");
        Edges.snap(x, 0, 0, 5);
        Edges.snap(x, 0, 4, 5);
        Check.due("the last one", x.bigamists(), 1 << 5);
        Edges.snap(x, 0, 0, 4);
        Check.due("three of them", x.bigamists(), 1 | 1 << 4 | 1 << 5);
        x.part(0, 4);
        x.part(0, 5);
        Check.due("none any more", x.bigamists(), 0);
    }

    static void promise17All() {
        SnapWed x = village(6, "");
        Edges.snap(x, 0, 0, 1, 2, 3, 4, 5);
        Check.due("all six", x.bigamists(), 63);
    }

    // ---- promise 18

    /** "NONE: others" */
    static void promise18OtherWhats() {
        SnapWed x = village(3, "");
        Edges.snap(x, 0, 0, 1, 2);
        for (int what : Edges.outside(0, 1)) {
            Check.due("mend(" + what + ")", x.mend(what), -1);
        }
    }

    static void promise18NothingToMend() {
        SnapWed x = village(6, "");
        Check.due("nobody wed", x.mend(0), 0);
        Check.due("nobody wed", x.mend(1), 0);
        Edges.snap(x, 0, 0, 1);
        Edges.snap(x, 0, 4, 5);
        Check.due("one each", x.mend(0), 0);
        Check.due("one each", x.mend(1), 0);
    }

    /** where parting costs nothing, too, nothing is parted without need */
    static void promise18NothingToMendForNothing() {
        SnapWed x = village(6, "parts 0;");
        Edges.snap(x, 0, 0, 1);
        Check.due("no pairs", x.mend(1), 0);
    }

    /** "the least paid together" */
    static void promise18TheLeastPaid() {
        SnapWed x = village(3, "likes a b 1;parts liking;");
        Edges.snap(x, 0, 0, 1);
        Edges.snap(x, 0, 0, 2);
        Check.due("a and c cost nothing", x.mend(0), 0);
        Check.due("a and c", x.mend(1), 1 << 1);
    }

    /** "of equal ones the fewest": two of 1 and one of 2 */
    static void promise18TheFewest() {
        SnapWed x = village(4, "likes a b 1;likes b c 2;likes c d 1;parts liking;");
        Edges.snap(x, 0, 0, 1);
        Edges.snap(x, 0, 1, 2);
        Edges.snap(x, 0, 2, 3);
        Check.due("paid", x.mend(0), 2);
        Check.due("b and c", x.mend(1), 1 << 5);
    }

    /** the fewest go ahead of the least set */
    static void promise18TheFewestAheadOfTheLeastSet() {
        SnapWed x = village(6, "likes a e 1;likes e f 2;likes b f 1;parts liking;");
        Edges.snap(x, 0, 0, 4);
        Edges.snap(x, 0, 4, 5);
        Edges.snap(x, 0, 1, 5);
        Check.due("paid", x.mend(0), 2);
        Check.due("e and f", x.mend(1), 1 << 14);
    }

    /** six in a ring part by twos in two ways: the least set is that without the last pair */
    static void promise18TheLeastSetOfARing() {
        SnapWed x = village(6, "");
        int[] ring = {0, 1, 3, 5, 4, 2, 0};
        for (int i = 0; i < 6; i++) {
            Edges.snap(x, 0, ring[i], ring[i + 1]);
        }
        Check.due("three", x.mend(0), 3);
        Check.due("a and b, c and e, d and f", x.mend(1), 1 | 1 << 10 | 1 << 13);
    }

    /** "of equal ones the least set" */
    static void promise18TheLeastSet() {
        SnapWed x = village(3, "");
        Edges.snap(x, 0, 0, 1, 2);
        Check.due("two of three", x.mend(0), 2);
        Check.due("a and b, a and c", x.mend(1), 0b11);
        SnapWed last = village(6, "");
        Edges.snap(last, 0, 3, 4, 5);
        Check.due("d and e, d and f", last.mend(1), 1 << 12 | 1 << 13);
    }

    /** "(each as all is now)": not as it is when the first one is parted */
    static void promise18EachAsAllIsNow() {
        SnapWed x = village(3, "parts wives * 10;");
        Edges.snap(x, 0, 0, 1, 2);
        Check.due("twice 40", x.mend(0), 80);
    }

    static void promise18PricesFrom0To999() {
        SnapWed dear = village(3, "parts 9999;");
        Edges.snap(dear, 0, 0, 1, 2);
        Check.due("twice 999", dear.mend(0), 1998);
        SnapWed cheap = village(3, "parts 0 - 5;");
        Edges.snap(cheap, 0, 0, 1, 2);
        Check.due("twice 0", cheap.mend(0), 0);
        Check.due("no more than need be", cheap.mend(1), 0b11);
    }

    static void promise18AllOfSix() {
        SnapWed x = village(6, "");
        Check.due("wed", Edges.snap(x, 0, 0, 1, 2, 3, 4, 5), ALL_PAIRS);
        Check.due("three pairs may stay", x.mend(0), 12);
        Check.due("a and b, c and d, e and f stay", x.mend(1), ALL_PAIRS & ~(1 | 1 << 9 | 1 << 14));
    }

    static void promise18NothingIsDone() {
        SnapWed x = village(3, "");
        Edges.snap(x, 0, 0, 1, 2);
        x.mend(1);
        Check.due("wed", x.count(4), 0b100011);
        Check.due("paid", x.count(6), 0);
    }

    // ---- promise 19

    /** "NONE: others, the same" */
    static void promise19OtherPeople() {
        SnapWed x = village(6, "says a w 1;");
        for (int person : Edges.outside(0, 5)) {
            Check.due("chance(0, " + person + ")", x.chance(0, person), -1);
            Check.due("chance(" + person + ", 0)", x.chance(person, 0), -1);
        }
    }

    static void promise19TheSame() {
        SnapWed x = village(6, "says a w 1;says f w 1;");
        Check.due("the first", x.chance(0, 0), -1);
        Check.due("the last", x.chance(5, 5), -1);
    }

    /** "if they could SNAP (at one PLACE, neither deaf, no dispensation, not wed; else 0)" */
    static void promise19WhoCantSnap() {
        String all = "says a w 1;says b w 1;says c w 1;";
        SnapWed place = village(3, all);
        place.walk(1, 1);
        Check.due("two places", place.chance(0, 1), 0);
        SnapWed kept = village(3, all + "kept a b;");
        Check.due("kept", kept.chance(0, 1), 0);
        SnapWed wed = village(3, all);
        Edges.snap(wed, 1, 0, 1);
        Check.due("wed", wed.chance(0, 1), 0);
        Check.due("wed to another", wed.chance(0, 2), 1000000);
        SnapWed deaf = village(3, all + "person d deaf at p shy 0;says d w 1;");
        Check.due("deaf", deaf.chance(0, 3), 0);
        Check.due("deaf", deaf.chance(3, 0), 0);
    }

    static void promise19SureAndNever() {
        SnapWed x = village(3, "says a w 9;says b w 1;says c v 1;");
        Check.due("sure", x.chance(0, 1), 1000000);
        Check.due("never", x.chance(0, 2), 0);
    }

    /** "who has neither says none" */
    static void promise19WhoHasNeitherOddsNorShyness() {
        SnapWed x = village(3, "says a w 1;");
        Check.due("one", x.chance(0, 1), 0);
        Check.due("both", x.chance(1, 2), 0);
    }

    /** "shy: none": two who are silent say not the same */
    static void promise19TwoShyOnesDontSayNoneTogether() {
        SnapWed x = Check.in("word w;place p;person a plain at p shy 9;person b plain at p shy 9;says a w 1;says b w 1;");
        Check.due("1 of 100", x.chance(0, 1), 10000);
        Check.due("silent for sure",
                Check.in("word w;place p;person a plain at p shy 9;person b plain at p shy 9;").chance(0, 1), 0);
    }

    /** "in millionths, cut" */
    static void promise19Cut() {
        SnapWed x = village(2, "says a w 1;says a v 2;says b w 2;");
        Check.due("a third", x.chance(0, 1), 333333);
        SnapWed two = village(2, "says a w 2;says a v 1;says b w 1;");
        Check.due("two thirds", two.chance(0, 1), 666666);
        SnapWed sum = village(2, "says a w 1;says a v 5;says b w 5;says b v 1;word u;says b u 1;");
        Check.due("10 of 42: the sum is cut, not each", sum.chance(0, 1), 238095);
    }

    static void promise19TheMostOdds() {
        StringBuilder text = new StringBuilder("word u;word v;word w;word x;word y;place p;");
        for (String who : new String[] {"a", "b"}) {
            text.append("person ").append(who).append(" plain at p shy 9;");
            for (String word : new String[] {"u", "v", "w", "x", "y"}) {
                text.append("says ").append(who).append(' ').append(word).append(" 9;");
            }
        }
        Check.due("405 of 2916", Check.in(text.toString()).chance(0, 1), 138888);
    }

    /** "(stammerers, echoes like others)", whatever is to be said and was */
    static void promise19StammerersAndEchoesLikeOthers() {
        SnapWed x = Check.in("word w;place p;person a stammer at p shy 0;person b echo at p shy 0;says a w 1;says b w 1;");
        Check.due("sure", x.chance(0, 1), 1000000);
        x.hush(0);
        Check.due("whatever is to be said", x.chance(0, 1), 1000000);
    }

    static void promise19WhatCountsIsOfNoMatter() {
        Check.due("sure", village(2, "counts 0;says a w 1;says b w 1;").chance(0, 1), 1000000);
    }

    // ---- promise 20

    private static SnapWed tenth() {
        return village(3, "says a w 1;says a v 9;says b w 1;says c w 1;");
    }

    /** "NONE: others, the same" */
    static void promise20OtherPeople() {
        SnapWed x = tenth();
        for (int person : Edges.outside(0, 2)) {
            Check.due("within(0, " + person + ")", x.within(0, person, 1), -1);
            Check.due("within(" + person + ", 0)", x.within(person, 0, 1), -1);
        }
    }

    static void promise20TheSame() {
        SnapWed x = tenth();
        Check.due("the first", x.within(0, 0, 1), -1);
        Check.due("the last", x.within(2, 2, 9), -1);
    }

    /** "so many (1 to 9) MOMENTS" */
    static void promise20OtherMoments() {
        SnapWed x = tenth();
        for (int moments : Edges.outside(1, 9)) {
            Check.due("within(0, 1, " + moments + ")", x.within(0, 1, moments), -1);
        }
    }

    static void promise20OneMomentIsTheChance() {
        SnapWed x = tenth();
        Check.due("a tenth", x.within(0, 1, 1), 100000);
        Check.due("the chance", x.chance(0, 1), 100000);
    }

    /** "what was * (1000000 - c) by 1000000, cut" */
    static void promise20NineMomentsEachCut() {
        SnapWed x = tenth();
        Check.due("two", x.within(0, 1, 2), 190000);
        Check.due("nine", x.within(0, 1, 9), 612581);
        SnapWed third = village(2, "says a w 1;says a v 2;says b w 1;");
        Check.due("a third, twice", third.within(0, 1, 2), 555556);
    }

    static void promise20SureAndNever() {
        SnapWed x = village(3, "says a w 1;says b w 1;says c v 1;");
        Check.due("sure in one", x.within(0, 1, 1), 1000000);
        Check.due("sure in nine", x.within(0, 1, 9), 1000000);
        Check.due("never in nine", x.within(0, 2, 9), 0);
        Check.due("never in one", x.within(0, 2, 1), 0);
    }

    // ---- promise 21

    /** "NONE: others, the same" */
    static void promise21OtherPeople() {
        SnapWed x = tenth();
        for (int person : Edges.outside(0, 2)) {
            Check.due("half(0, " + person + ")", x.half(0, person), -1);
            Check.due("half(" + person + ", 0)", x.half(person, 0), -1);
        }
    }

    static void promise21TheSame() {
        SnapWed x = tenth();
        Check.due("the first", x.half(0, 0), -1);
        Check.due("the last", x.half(2, 2), -1);
    }

    /** "500000 or more" */
    static void promise21JustHalf() {
        SnapWed x = village(2, "says a w 1;says a v 1;says b w 1;");
        Check.due("its chance", x.chance(0, 1), 500000);
        Check.due("at once", x.half(0, 1), 1);
    }

    static void promise21JustLessThanHalf() {
        SnapWed x = village(2, "says a w 8;says a v 9;says b w 1;");
        Check.due("its chance", x.chance(0, 1), 470588);
        Check.due("not at once", x.half(0, 1), 2);
    }

    static void promise21Sure() {
        Check.due("at once", village(2, "says a w 1;says b w 1;").half(0, 1), 1);
    }

    private static SnapWed rare(String odds) {
        return Check.in("word w;word v;word u;word t;place p;person a plain at p shy 9;person b plain at p shy 9;" + odds);
    }

    /** "the fewest MOMENTS (1 to 200)" */
    static void promise21ByTwoHundred() {
        SnapWed x = rare("says a w 1;says a v 7;says b w 1;says b u 7;");
        Check.due("1 of 289", x.chance(0, 1), 3460);
        Check.due("by the last", x.half(0, 1), 200);
    }

    /** "NONE: .. not by 200" */
    static void promise21NotByTwoHundred() {
        SnapWed x = rare("says a w 1;says b w 1;says b v 9;says b u 9;says b t 1;");
        Check.due("1 of 290", x.chance(0, 1), 3448);
        Check.due("by 201", x.half(0, 1), -1);
    }

    static void promise21Never() {
        Check.due("never", village(2, "says a w 1;says b v 1;").half(0, 1), -1);
    }

    // ---- promise 22

    /** "NONE: others" */
    static void promise22OtherPeople() {
        SnapWed x = village(6, "says a w 1;says f v 1;");
        for (int person : Edges.outside(0, 5)) {
            Check.due("safest(" + person + ")", x.safest(person), -1);
        }
        Check.due("the last one", x.safest(5), 1);
    }

    /** "he may say nothing" */
    static void promise22HeMaySayNothing() {
        SnapWed x = village(2, "says a w 1;");
        Check.due("b", x.safest(1), -1);
        Check.due("without words", Check.in("place p;person a plain at p shy 3;").safest(0), -1);
    }

    /** "the SAYING that he may say (odds above 0)" */
    static void promise22OnlyWhatHeMaySay() {
        SnapWed x = village(2, "says a v 1;says b v 9;");
        Check.due("v, though w is safer", x.safest(0), 1);
    }

    /** "of equal ones the first" */
    static void promise22OfEqualOnesTheFirst() {
        Check.due("alone", village(1, "says a v 1;says a w 1;").safest(0), 0);
        Check.due("both as likely", village(2, "says a w 1;says a v 9;says b w 3;says b v 3;").safest(0), 0);
        Check.due("the second is safer", village(2, "says a w 1;says a v 9;says b w 4;says b v 3;").safest(0), 1);
    }

    /** "a PERSON he could SNAP with": all others are of no matter */
    static void promise22OnlyThoseHeCouldSnapWith() {
        String odds = "says a w 1;says a v 1;says b w 1;";
        Check.due("b", village(2, odds).safest(0), 1);
        Check.due("kept", village(2, odds + "kept a b;").safest(0), 0);
        SnapWed away = village(2, odds);
        away.walk(1, 1);
        Check.due("elsewhere", away.safest(0), 0);
        SnapWed wed = village(2, odds);
        Edges.snap(wed, 1, 0, 1);
        Check.due("wed", wed.safest(0), 0);
        Check.due("deaf", village(1, "person b deaf at p shy 0;" + odds).safest(0), 0);
    }

    static void promise22TheFirstPersonIsADangerToo() {
        Check.due("a says w", village(2, "says a w 1;says b w 1;says b v 1;").safest(1), 1);
        Check.due("f says w", village(6, "says a w 1;says a v 1;says f w 1;").safest(0), 1);
    }

    static void promise22TheLastOfFiveSayings() {
        String more = "word x;word y;word z;says b w 1;says b v 1;says b x 1;says b y 1;";
        Check.due("the last", village(2, more + "says a w 1;says a v 1;says a x 1;says a y 1;says a z 1;").safest(0), 4);
        Check.due("nothing of five", village(2, more).safest(0), -1);
    }

    /** "in millionths, each cut": three thirds are 999999 */
    static void promise22EachCut() {
        SnapWed x = Check.in("word v;word w;place p;person a plain at p shy 0;person b plain at p shy 2;"
                + "person c plain at p shy 2;person d plain at p shy 2;person e plain at p shy 0;"
                + "says a v 1;says a w 1;says b w 1;says c w 1;says d w 1;says e v 1;");
        Check.due("999999 is less than 1000000", x.safest(0), 1);
    }

    static void promise22WhoHasNeitherOddsNorShyness() {
        Check.due("b says nothing", village(2, "says a w 1;says a v 1;").safest(0), 0);
    }

    // ---- promise 23

    /** "NONE: others" */
    static void promise23OtherPeople() {
        SnapWed x = village(6, "");
        for (int person : Edges.outside(0, 5)) {
            Check.due("haven(" + person + ")", x.haven(person), -1);
        }
    }

    /** "of equal ones the first" */
    static void promise23OfEqualOnesTheFirst() {
        SnapWed x = village(2, "says a w 1;");
        x.walk(0, 1);
        Check.due("safe at both", x.haven(0), 0);
        SnapWed both = village(3, "says a w 1;says b w 1;says c w 1;");
        both.walk(2, 1);
        Check.due("as bad at both", both.haven(0), 0);
    }

    static void promise23OnePlaceAlone() {
        SnapWed x = Check.in("word w;place p;person a plain at p shy 0;person b plain at p shy 0;says a w 1;says b w 1;");
        Check.due("there is no other", x.haven(0), 0);
    }

    static void promise23TheLastOfFourPlaces() {
        SnapWed x = Check.in("word w;place m;place n;place o;place p;person a plain at m shy 0;person b plain at m shy 0;"
                + "person c plain at n shy 0;person d plain at o shy 0;says a w 1;says b w 1;says c w 1;says d w 1;");
        Check.due("nobody is there", x.haven(0), 3);
        Check.due("he has not moved", x.person(0, 1), 0);
    }

    static void promise23WhereHeIsNow() {
        SnapWed x = village(3, "says a w 1;says b w 1;");
        x.walk(0, 1);
        Check.due("he stays", x.haven(0), 1);
        Check.due("b goes to a or stays by c", x.haven(1), 0);
    }

    static void promise23TheFirstAndTheLastPersonAreDangersToo() {
        Check.due("a is at p", village(2, "says a w 1;says b w 1;").haven(1), 1);
        Check.due("f is at p", village(6, "says a w 1;says f w 1;").haven(0), 1);
        Check.due("a is at p", village(6, "says a w 1;says f w 1;").haven(5), 1);
    }

    /** "his ODDS of all others, added up" */
    static void promise23AddedUp() {
        SnapWed x = village(4, "says a w 1;says b w 1;says b v 1;says c w 1;says c v 1;says d w 2;says d v 1;");
        x.walk(3, 1);
        Check.due("twice a half is more than two thirds", x.haven(0), 1);
    }

    static void promise23WhoCantSnapIsOfNoMatter() {
        SnapWed x = village(2, "says a w 1;says b w 1;kept a b;");
        Check.due("kept", x.haven(0), 0);
        SnapWed deaf = village(1, "person b deaf at p shy 0;says a w 1;says b w 1;");
        Check.due("deaf", deaf.haven(0), 0);
        Check.due("deaf", deaf.haven(1), 0);
    }

    // ---- promise 24

    /** "-2: others" */
    static void promise24OtherWhats() {
        SnapWed x = village(6, "");
        for (int what : Edges.outside(-1, 5)) {
            Check.due("matches(" + what + ")", x.matches(what), -2);
        }
        Check.due("the last", x.matches(5), 5);
    }

    static void promise24NobodyHasOneMatch() {
        Check.due("places alone", Check.in("place p;").matches(-1), 1);
    }

    static void promise24OnePersonAlone() {
        SnapWed x = village(1, "");
        Check.due("one", x.matches(-1), 1);
        Check.due("himself", x.matches(0), 0);
    }

    private static SnapWed round() {
        return village(3, "likes a b 2;likes b c 2;likes c a 2;likes a c 1;likes b a 1;likes c b 1;");
    }

    /** "how many (0: none)" */
    static void promise24None() {
        Check.due("three who run round", round().matches(-1), 0);
    }

    /** "of a PERSON if there is no MATCH" */
    static void promise24OfAPersonWithoutAMatch() {
        for (int person = 0; person < 3; person++) {
            Check.due("-2", round().matches(person), -2);
        }
        SnapWed x = village(2, "likes a b 1;likes b a 1;");
        Check.due("ahead there was one", x.matches(0), 1);
        Check.due("now there is none", Check.province(x, Edges.village(3)
                + "likes a b 2;likes b c 2;likes c a 2;likes a c 1;likes b a 1;likes c b 1;"), 0);
        Check.due("-2", x.matches(0), -2);
    }

    static void promise24AllWaysOfSix() {
        SnapWed x = village(6, "");
        Check.due("all ways", x.matches(-1), 76);
        for (int person = 0; person < 6; person++) {
            Check.due("the first row: all by themselves", x.matches(person), person);
        }
        Check.due("all ways of two", village(2, "").matches(-1), 2);
        Check.due("all ways of five", village(5, "").matches(-1), 26);
    }

    /** "(one by himself has 0)": liking of 0 is not more */
    static void promise24OneByHimselfHas0() {
        SnapWed x = village(2, "likes a b 1;likes b a 0;");
        Check.due("b would not", x.matches(-1), 2);
        Check.due("by himself first", x.matches(0), 0);
        SnapWed y = village(2, "likes a b 1;likes b a 1;");
        Check.due("both would", y.matches(-1), 1);
        Check.due("with b", y.matches(0), 1);
    }

    /** "would both like each other more": as much is not more */
    static void promise24AsMuchIsNotMore() {
        SnapWed x = village(3, "likes a b 2;likes a c 2;likes b a 5;likes c a 5;");
        Check.due("with b, with c", x.matches(-1), 2);
        Check.due("the first row has a with b", x.matches(0), 1);
        Check.due("c by himself", x.matches(2), 2);
    }

    /** "(no dispensation, neither deaf; wed or not is of no matter)" */
    static void promise24WhoCantBeTogether() {
        String likes = "likes a b 9;likes b a 9;";
        Check.due("kept", village(2, likes + "kept a b;").matches(-1), 1);
        Check.due("kept", village(2, likes + "kept a b;").matches(0), 0);
        Check.due("deaf", village(1, "person b deaf at p shy 0;" + likes).matches(1), 1);
        SnapWed wed = village(2, likes);
        Edges.snap(wed, 0, 0, 1);
        Check.due("wed", wed.matches(1), 0);
        wed.walk(0, 1);
        Check.due("elsewhere", wed.matches(0), 1);
    }

    /** "no two who could be": two who could not may like each other as they will */
    static void promise24TwoWhoCouldNotBeLeaveNobody() {
        SnapWed x = village(3, "likes a b 9;likes b a 9;likes a c 1;likes c a 1;kept a b;");
        Check.due("a with c", x.matches(0), 2);
        Check.due("one", x.matches(-1), 1);
    }

    /** "the first row" */
    static void promise24TheFirstRow() {
        SnapWed x = village(6, "likes a f 1;likes f a 1;likes e f 1;likes f e 1;");
        Check.due("a by himself, e with f", x.matches(0), 0);
        Check.due("e", x.matches(4), 5);
        Check.due("f", x.matches(5), 4);
    }

    // ---- promise 25

    /** "NONE: others, the same" */
    static void promise25OtherPeople() {
        SnapWed x = village(6, "says a w 1;says b w 1;");
        for (int person : Edges.outside(0, 5)) {
            Check.due("code(0, " + person + ")", x.code(0, person), -1);
            Check.due("code(" + person + ", 0)", x.code(person, 0), -1);
        }
    }

    static void promise25TheSame() {
        SnapWed x = village(1, "says a w 1;");
        Check.due("himself", x.code(0, 0), -1);
    }

    /** "none" */
    static void promise25None() {
        Check.due("no saying of both", village(2, "says a w 1;says b v 1;").code(0, 1), -1);
        Check.due("another may", village(3, "says a w 1;says b w 1;says c w 1;").code(0, 1), -1);
        Check.due("no odds", village(2, "").code(0, 1), -1);
    }

    static void promise25TheLastOfFiveSayings() {
        String more = "word x;word y;word z;says a w 1;says b v 1;says a x 1;says b y 1;says a z 1;";
        Check.due("none of five", village(2, more).code(0, 1), -1);
        Check.due("the last", village(2, more + "says b z 1;").code(0, 1), 4);
    }

    /** "the first SAYING" */
    static void promise25TheFirst() {
        Check.due("of two", village(2, "says a v 9;says b v 9;says a w 1;says b w 1;").code(0, 1), 0);
        Check.due("the last", village(3, "says a v 9;says b v 9;says a w 1;says b w 1;says c w 1;").code(0, 1), 1);
    }

    /** "nobody else at the first one's PLACE" */
    static void promise25AtTheFirstOnesPlace() {
        SnapWed x = village(3, "says a w 1;says b w 1;says c w 1;");
        x.walk(0, 1);
        Check.due("a is alone at q", x.code(0, 1), 0);
        Check.due("c is at b's place", x.code(1, 0), -1);
        x.walk(2, 1);
        Check.due("c is at a's place", x.code(0, 1), -1);
        Check.due("b is alone at p", x.code(1, 0), 0);
    }

    static void promise25WhoHearsNothingIsSomebodyElseToo() {
        SnapWed x = village(2, "person c deaf at p shy 0;says a w 1;says b w 1;says c w 1;");
        Check.due("the deaf may say it", x.code(0, 1), -1);
    }

    // ---- promise 26

    /** "NONE: others" */
    static void promise26OtherPlaces() {
        SnapWed x = village(6, "says a w 1;");
        for (int place : Edges.outside(0, 1)) {
            Check.due("may(" + place + ", 0)", x.may(place, 0), -1);
        }
    }

    static void promise26OtherSayings() {
        SnapWed x = village(6, "says a w 1;");
        for (int saying : Edges.outside(0, 1)) {
            Check.due("may(0, " + saying + ")", x.may(0, saying), -1);
        }
    }

    static void promise26NobodyAndAll() {
        SnapWed x = village(6, "says a w 1;says b w 1;says c w 1;says d w 1;says e w 1;says f w 1;");
        Check.due("all", x.may(0, 0), 63);
        Check.due("nobody may", x.may(0, 1), 0);
        Check.due("nobody is there", x.may(1, 0), 0);
        x.walk(5, 1);
        Check.due("the last one", x.may(1, 0), 1 << 5);
        Check.due("all but him", x.may(0, 0), 31);
    }

    static void promise26WithoutPeople() {
        Check.due("nobody", Check.in("word w;place p;").may(0, 0), 0);
    }

    static void promise26TheLastPlaceAndSaying() {
        SnapWed x = Check.in("word v;word w;word x;word y;word z;place m;place n;place o;place p;person a deaf at p shy 0;"
                + "says a z 1;");
        Check.due("there", x.may(3, 4), 1);
        Check.due("no fifth place", x.may(4, 4), -1);
        Check.due("no sixth saying", x.may(3, 5), -1);
    }

    // ---- promise 27

    /** "-2: others" */
    static void promise27OtherPlaces() {
        SnapWed x = village(6, "");
        for (int place : Edges.outside(0, 1)) {
            Check.due("rota(" + place + ", NONE)", x.rota(place, -1), -2);
            Check.due("rota(" + place + ", 0)", x.rota(place, 0), -2);
        }
    }

    static void promise27OtherPeople() {
        SnapWed x = village(6, "");
        for (int person : Edges.outside(-1, 5)) {
            Check.due("rota(0, " + person + ")", x.rota(0, person), -2);
            Check.due("rota of nobody's place", x.rota(1, person), -2);
        }
    }

    /** "how many (0: nobody is there)" */
    static void promise27NobodyIsThere() {
        SnapWed x = village(6, "");
        Check.due("nobody", x.rota(1, -1), 0);
        Check.due("when", x.rota(1, 0), -1);
        Check.due("without people", Check.in("place p;").rota(0, -1), 0);
    }

    /** "when (NONE: he is not there)" */
    static void promise27HeIsNotThere() {
        SnapWed x = village(6, "says a w 1;says b w 1;");
        x.walk(1, 1);
        Check.due("b is not", x.rota(0, 1), -1);
        Check.due("b is", x.rota(1, 1), 0);
        Check.due("a", x.rota(0, 0), 0);
        Check.due("one is enough", x.rota(0, -1), 1);
    }

    static void promise27OneMomentForAll() {
        SnapWed x = village(6, "");
        Check.due("one", x.rota(0, -1), 1);
        for (int person = 0; person < 6; person++) {
            Check.due("in it", x.rota(0, person), 0);
        }
    }

    static void promise27SixMomentsForSix() {
        SnapWed x = village(6, "says a w 1;says b w 1;says c w 1;says d w 1;says e w 1;says f w 1;");
        Check.due("six", x.rota(0, -1), 6);
        for (int person = 0; person < 6; person++) {
            Check.due("each in his own", x.rota(0, person), person);
        }
    }

    /** "the fewest MOMENTS": one by one in the first that is free would take three */
    static void promise27TheFewest() {
        SnapWed x = Check.in("word w;word v;word u;place p;person a plain at p shy 0;person b plain at p shy 0;"
                + "person c plain at p shy 0;person d plain at p shy 0;says a w 1;says c w 1;says c v 1;says d v 1;"
                + "says d u 1;says b u 1;");
        int[] row = {0, 1, 1, 0};
        Check.due("two", x.rota(0, -1), 2);
        for (int person = 0; person < 4; person++) {
            Check.due("when", x.rota(0, person), row[person]);
        }
    }

    /** "of equal ones the first row" */
    static void promise27TheFirstRow() {
        SnapWed x = village(4, "says a w 1;says b w 1;says c v 1;says d v 1;");
        int[] row = {0, 1, 0, 1};
        for (int person = 0; person < 4; person++) {
            Check.due("when", x.rota(0, person), row[person]);
        }
    }

    /** "none that CLASH in one": who could not SNAP may talk at once */
    static void promise27WhoCantSnapTalksAtOnce() {
        String odds = "says a w 1;says b w 1;";
        Check.due("they clash", village(2, odds).rota(0, -1), 2);
        Check.due("kept", village(2, odds + "kept a b;").rota(0, -1), 1);
        Check.due("deaf", village(1, "person b deaf at p shy 0;" + odds).rota(0, -1), 1);
        SnapWed wed = village(2, odds);
        Edges.snap(wed, 0, 0, 1);
        Check.due("wed", wed.rota(0, -1), 1);
    }

    // ---- promise 28

    /** "NONE: others" */
    static void promise28OtherPlaces() {
        SnapWed x = village(6, "");
        for (int place : Edges.outside(0, 1)) {
            Check.due("company(" + place + ")", x.company(place), -1);
        }
    }

    static void promise28NobodyIsThere() {
        Check.due("nobody", village(6, "").company(1), 0);
        Check.due("without people", Check.in("place p;").company(0), 0);
    }

    static void promise28AllAreSafe() {
        SnapWed x = village(6, "");
        Check.due("all", x.company(0), 63);
        x.walk(5, 1);
        Check.due("those there alone", x.company(0), 31);
        Check.due("the last one", x.company(1), 32);
    }

    /** "of equal ones the least set" */
    static void promise28TheLeastSet() {
        Check.due("all clash", village(3, "says a w 1;says b w 1;says c w 1;").company(0), 1);
        Check.due("a and c, or b and d", village(4, "says a w 1;says b w 1;says c v 1;says d v 1;").company(0), 0b101);
    }

    /** "the most PEOPLE": more of higher numbers are more than fewer of lower ones */
    static void promise28TheMost() {
        SnapWed x = village(6, "says a w 1;says a v 1;says e w 1;says f v 1;kept b c;");
        Check.due("all but a", x.company(0), 62);
    }

    static void promise28WhoCantSnapIsSafe() {
        String odds = "says a w 1;says b w 1;";
        Check.due("they clash", village(2, odds).company(0), 1);
        Check.due("kept", village(2, odds + "kept a b;").company(0), 3);
        Check.due("deaf", village(1, "person b deaf at p shy 0;" + odds).company(0), 3);
        SnapWed wed = village(2, odds);
        Edges.snap(wed, 0, 0, 1);
        Check.due("wed", wed.company(0), 3);
    }
}
