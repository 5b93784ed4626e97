import java.util.Arrays;
import java.util.NoSuchElementException;

/** A province in which two who say the same thing at the same moment are wed, as ../shared/DOC.md tells it. */
public final class SnapWed {
    public static final int NONE = -1;

    /** The answer to wrong arguments of calls for which NONE is an ordinary answer. */
    private static final int REFUSED = -2;

    private static final int TAPE_SIGNS = 1000;
    private static final int MOST_SAYINGS = 5;
    private static final int MOST_PLACES = 4;
    private static final int MOST_PEOPLE = 6;
    private static final int MOST_NAMES = 15;
    private static final int MOST_LINES = 30;
    private static final int MOST_HEARD = 5;
    private static final int MOST_UNDONE = 16;
    private static final int MOST_MARKS = 4;
    private static final int MOST_PAID = 999;
    private static final int MILLION = 1000000;

    private static final int SILENT = 3;
    private static final int CHOICES = 4;

    /** By people, the pairs in which one is, as bits. */
    private static final int[] PAIRS_OF = {
        0b0_00_000_0000_11111, 0b0_00_000_1111_00001, 0b0_00_111_0001_00010,
        0b0_11_001_0010_00100, 0b1_01_010_0100_01000, 0b1_10_100_1000_10000};

    private final Tape tape = new Tape();
    private final Reader reader = new Reader(tape);
    private final Scene now = new Scene();
    private final Scene stage = new Scene();
    private final History history = new History();
    private final Scene[] marks = new Scene[MOST_MARKS];
    private final Matchmaker matchmaker = new Matchmaker();
    private final Parlour parlour = new Parlour();
    private Province land = new Province();
    private Province nextLand = new Province();
    private Day agenda = new Day();
    private Day nextAgenda = new Day();
    private int marksLaid;

    public SnapWed() {
        for (int i = 0; i < MOST_MARKS; i++) {
            marks[i] = new Scene();
        }
        now.begin(land);
    }

    public int feed(long a, long b, long c) {
        tape.addBytes(a);
        tape.addBytes(b);
        tape.addBytes(c);
        return tape.length;
    }

    public int province() {
        int fault = reader.readProvince(nextLand);
        tape.length = 0;
        if (fault == 0) {
            Province old = land;
            land = nextLand;
            nextLand = old;
            agenda.size = 0;
            now.begin(land);
            history.size = 0;
            marksLaid = 0;
        }
        return fault;
    }

    public int day() {
        int fault = reader.readDay(nextAgenda, land);
        tape.length = 0;
        if (fault == 0) {
            Day old = agenda;
            agenda = nextAgenda;
            nextAgenda = old;
        }
        return fault;
    }

    public int person(int person, int what) {
        if (!land.hasPerson(person)) {
            return REFUSED;
        }
        switch (what) {
            case 0:
                return land.kind[person];
            case 1:
                return now.place[person];
            case 2:
                return land.shy[person];
            case 3:
                return now.toSay[person];
            case 4:
                return now.utteranceOf(land, person);
            case 5:
                return now.spousesOf(person);
            default:
                return REFUSED;
        }
    }

    public int odds(int person, int saying) {
        return land.hasPerson(person) && land.hasSaying(saying) ? land.odds[person][saying] : NONE;
    }

    public int likes(int person, int other) {
        return land.areTwo(person, other) ? land.liking[person][other] : NONE;
    }

    public boolean two(int one, int other, int what) {
        if (!land.areTwo(one, other)) {
            return false;
        }
        switch (what) {
            case 0:
                return now.areWed(one, other);
            case 1:
                return now.areKept(one, other);
            case 2:
                return now.couldSnap(land, one, other);
            case 3:
                return now.clash(land, one, other);
            default:
                return false;
        }
    }

    public boolean say(int person, int saying) {
        if (!land.hasPerson(person) || !land.hasSaying(saying)) {
            return false;
        }
        history.remember(now);
        now.toSay[person] = saying;
        return true;
    }

    public boolean hush(int person) {
        if (!land.hasPerson(person)) {
            return false;
        }
        history.remember(now);
        now.toSay[person] = NONE;
        return true;
    }

    public boolean walk(int person, int place) {
        if (!land.hasPerson(person) || !land.hasPlace(place) || now.place[person] == place) {
            return false;
        }
        history.remember(now);
        now.place[person] = place;
        return true;
    }

    public int moment() {
        history.remember(now);
        return now.passMoment(land);
    }

    public int part(int one, int other) {
        if (!land.areTwo(one, other) || !now.areWed(one, other)) {
            return NONE;
        }
        history.remember(now);
        return now.separate(land, one, other);
    }

    public boolean keep(int one, int other) {
        if (!land.areTwo(one, other) || now.areKept(one, other)) {
            return false;
        }
        history.remember(now);
        now.kept |= pairBit(one, other);
        return true;
    }

    public boolean undo() {
        return history.giveBack(now);
    }

    public int judged(int what) {
        if (what < 0 || what > 2) {
            return REFUSED;
        }
        agenda.judge(land, stage);
        if (what == 2) {
            return Integer.bitCount(stage.wed);
        }
        return what == 0 ? agenda.firstImpossible : agenda.firstBigamy;
    }

    public int bigamists() {
        return now.bigamistBits();
    }

    public int mend(int what) {
        if (what != 0 && what != 1) {
            return NONE;
        }
        int parted = matchmaker.leastParted(land, now);
        return what == 1 ? parted : matchmaker.priceOf(parted);
    }

    public int chance(int one, int other) {
        return land.areTwo(one, other) ? Odds.ofTwo(land, now, one, other) : NONE;
    }

    public int within(int one, int other, int moments) {
        if (!land.areTwo(one, other) || moments < 1 || moments > 9) {
            return NONE;
        }
        return Odds.afterSome(Odds.ofTwo(land, now, one, other), moments);
    }

    public int half(int one, int other) {
        return land.areTwo(one, other) ? Odds.untilHalf(Odds.ofTwo(land, now, one, other)) : NONE;
    }

    public int safest(int person) {
        return land.hasPerson(person) ? Odds.safestSaying(land, now, person) : NONE;
    }

    public int haven(int person) {
        if (!land.hasPerson(person)) {
            return NONE;
        }
        stage.copyAll(now);
        return Odds.safestPlace(land, stage, person);
    }

    public int matches(int what) {
        if (what != NONE && !land.hasPerson(what)) {
            return REFUSED;
        }
        int found = matchmaker.countMatches(land, now);
        if (what == NONE) {
            return found;
        }
        return found == 0 ? REFUSED : Matchmaker.partnerIn(matchmaker.firstMatch, what);
    }

    public int code(int one, int other) {
        if (!land.areTwo(one, other)) {
            return NONE;
        }
        int both = 1 << one | 1 << other;
        for (int saying = 0; saying < land.sayings; saying++) {
            boolean shared = land.odds[one][saying] > 0 && land.odds[other][saying] > 0;
            if (shared && (now.talkersAt(land, now.place[one], saying) & ~both) == 0) {
                return saying;
            }
        }
        return NONE;
    }

    public int may(int place, int saying) {
        return land.hasPlace(place) && land.hasSaying(saying) ? now.talkersAt(land, place, saying) : NONE;
    }

    public int rota(int place, int person) {
        if (!land.hasPlace(place) || person != NONE && !land.hasPerson(person)) {
            return REFUSED;
        }
        parlour.enter(land, now, place);
        parlour.planTurns();
        return person == NONE ? parlour.turns : parlour.turnOf[person];
    }

    public int company(int place) {
        if (!land.hasPlace(place)) {
            return NONE;
        }
        parlour.enter(land, now, place);
        return parlour.largestSafe();
    }

    public boolean hear(int saying) {
        if (saying != NONE && !land.hasSaying(saying) || now.heardSize >= MOST_HEARD) {
            return false;
        }
        now.heard[now.heardSize] = saying;
        now.heardSize++;
        return true;
    }

    public int who() {
        return Odds.suspects(land, now);
    }

    public int likely() {
        return Odds.likeliest(land, now);
    }

    public int ask() {
        return Odds.bestQuestion(land, now);
    }

    public int rests(int gets, int loses, int what) throws NoSuchElementException {
        if (gets < 0 || gets > 9 || loses < 0 || loses > 9 || what < NONE) {
            throw new NoSuchElementException("no such window");
        }
        int found = 0;
        for (int both = 0; both < CHOICES * CHOICES; both++) {
            if (isAtRest(gets, loses, both / CHOICES, both % CHOICES)) {
                if (found == what) {
                    return both;
                }
                found++;
            }
        }
        if (what != NONE) {
            throw new NoSuchElementException("no such rest");
        }
        return found;
    }

    public int generations(int seed, int moments, int what) {
        if (seed < 0 || seed > 9999 || moments < 1 || moments > 60 || what < 0 || what > 2) {
            return NONE;
        }
        stage.copyAll(now);
        long draws = seed;
        int weddingMoments = 0;
        for (int i = 0; i < moments; i++) {
            draws = stage.drawSayings(land, draws);
            draws = stage.drawWalk(land, draws);
            if (stage.passMoment(land) != 0) {
                weddingMoments++;
            }
        }
        if (what == 2) {
            return weddingMoments;
        }
        return Integer.bitCount(what == 0 ? stage.wed & ~now.wed : stage.bigamistBits());
    }

    public boolean mark(int mark, boolean back) {
        if (mark < 0 || mark >= MOST_MARKS) {
            return false;
        }
        if (!back) {
            marks[mark].copyAll(now);
            marksLaid |= 1 << mark;
            return true;
        }
        if (!hasBit(marksLaid, mark)) {
            return false;
        }
        now.copyAll(marks[mark]);
        history.size = 0;
        return true;
    }

    public int count(int what) {
        switch (what) {
            case 0:
                return land.sayings;
            case 1:
                return land.places;
            case 2:
                return land.people;
            case 3:
                return now.time;
            case 4:
                return now.wed;
            case 5:
                return now.kept;
            case 6:
                return now.paid;
            case 7:
                return agenda.size;
            case 8:
                return now.heardSize;
            case 9:
                return history.size;
            case 10:
                return tape.length;
            default:
                return NONE;
        }
    }

    private static boolean isAtRest(int gets, int loses, int first, int second) {
        return isContent(gets, loses, first, second) && isContent(gets, loses, second, first);
    }

    private static boolean isContent(int gets, int loses, int mine, int theirs) {
        int have = gain(gets, loses, mine, theirs);
        for (int choice = 0; choice < CHOICES; choice++) {
            if (gain(gets, loses, choice, theirs) > have) {
                return false;
            }
        }
        return true;
    }

    private static int gain(int gets, int loses, int mine, int theirs) {
        if (mine == SILENT) {
            return 0;
        }
        return mine == theirs ? gets : -loses;
    }

    /** Pairs are bits by the lesser person, then the other one, of six people whoever is there. */
    private static int pairBit(int one, int other) {
        int lesser = one < other ? one : other;
        int greater = one < other ? other : one;
        return 1 << (lesser * (2 * MOST_PEOPLE - 1 - lesser) / 2 + greater - lesser - 1);
    }

    private static boolean hasBit(int bits, int number) {
        return (bits >> number & 1) != 0;
    }

    /** All that a text can be cut into; the language keeps its words for itself, but the facts may be names too. */
    private enum Token {
        END(""), BAD(""), NUMBER(""), NAME(""), OPEN("("), CLOSE(")"), SEMICOLON(";"),
        WORD("word"), PLACE("place"), PERSON("person"), AT("at"), SHY("shy"), SAYS("says"), LIKES("likes"),
        KEPT("kept"), COUNTS("counts"), PARTS("parts"),
        SAY("say"), HUSH("hush"), WALK("walk"), PART("part"), KEEP("keep"), MOMENT("moment"),
        PLAIN("plain", Token.KIND, Province.PLAIN), DEAF("deaf", Token.KIND, Province.DEAF),
        STAMMER("stammer", Token.KIND, Province.STAMMER), ECHO("echo", Token.KIND, Province.ECHO),
        NOT("not"), AND("and", Token.JOINS_TESTS, Law.AND), OR("or", Token.JOINS_TESTS, Law.OR),
        LESS("<", Token.JOINS_SUMS, Law.LESS), EQUAL("=", Token.JOINS_SUMS, Law.EQUAL),
        PLUS("+", Token.JOINS_PRODUCTS, Law.ADD), MINUS("-", Token.JOINS_PRODUCTS, Law.SUBTRACT),
        TIMES("*", Token.JOINS_PARTS, Law.MULTIPLY),
        LIKING("liking", Token.FACT, Law.LIKING), BACK("back", Token.FACT, Law.BACK),
        WIVES("wives", Token.FACT, Law.WIVES);

        /** What joins stands in the order of the levels of an E, from the outermost on. */
        static final int JOINS_TESTS = 0;
        static final int JOINS_SUMS = 1;
        static final int JOINS_PRODUCTS = 2;
        static final int JOINS_PARTS = 3;
        static final int FACT = 4;
        static final int KIND = 5;
        private static final int OTHER = 6;

        private static final Token[] ALL = values();

        private final long letters;
        private final int role;
        /** The number of a KIND, or the step of a law. */
        private final int meaning;

        Token(String text) {
            this(text, Token.OTHER, 0);
        }

        Token(String text, int role, int meaning) {
            long packed = 0;
            for (int i = 0; i < text.length(); i++) {
                packed = packed << 8 | text.charAt(i);
            }
            this.letters = packed;
            this.role = role;
            this.meaning = meaning;
        }

        static Token spelled(long letters, Token otherwise) {
            for (int i = 0; i < ALL.length; i++) {
                if (ALL[i].letters == letters) {
                    return ALL[i];
                }
            }
            return otherwise;
        }

        boolean isName() {
            return this == NAME || role == FACT;
        }

        boolean startsPart() {
            return this == NUMBER || this == NOT || this == OPEN || role == FACT;
        }
    }

    /** The signs that were fed and not taken yet, and the token at which their reader stands. */
    private static final class Tape {
        private static final int MOST_LETTERS = 8;
        private static final int MOST_DIGITS = 4;
        private static final int MOST_TOKENS = TAPE_SIGNS + 1;

        private final byte[] signs = new byte[TAPE_SIGNS];
        private int length;
        private final Token[] tokens = new Token[MOST_TOKENS];
        private final int[] starts = new int[MOST_TOKENS];
        /** The letters of words, the worth of numbers. */
        private final long[] values = new long[MOST_TOKENS];
        private int size;
        private int at;
        private Token token = Token.END;
        private int start;
        private long value;

        void addBytes(long eight) {
            for (int shift = 56; shift >= 0; shift -= 8) {
                int sign = (int) (eight >>> shift) & 255;
                boolean fits = sign == '\n' || sign >= ' ' && sign <= '~';
                if (fits && length < TAPE_SIGNS) {
                    signs[length] = (byte) sign;
                    length++;
                }
            }
        }

        /** To the first token; there is always one, if only the end. */
        void open() {
            size = 0;
            int next = 0;
            for (int i = 0; i < TAPE_SIGNS && next < length; i++) {
                next = signs[next] == ' ' || signs[next] == '\n' ? next + 1 : cut(next);
            }
            addToken(Token.END, length, 0);
            at = -1;
            advance();
        }

        /** Stays at the end when it is there. */
        void advance() {
            if (at < size - 1) {
                at++;
                Token shown = tokens[at];
                token = shown == null ? Token.END : shown;
                start = starts[at];
                value = values[at];
            }
        }

        /** Where the token that begins at a place ends. */
        private int cut(int from) {
            if (isLetter(signs[from])) {
                return cutWord(from);
            }
            if (isDigit(signs[from])) {
                return cutNumber(from);
            }
            addToken(Token.spelled(signs[from], Token.BAD), from, 0);
            return from + 1;
        }

        private int cutWord(int from) {
            int next = from;
            long letters = 0;
            while (next < length && isLetter(signs[next])) {
                letters = letters << 8 | signs[next];
                next++;
            }
            addToken(next - from > MOST_LETTERS ? Token.BAD : Token.spelled(letters, Token.NAME), from, letters);
            return next;
        }

        private int cutNumber(int from) {
            int next = from;
            long number = 0;
            while (next < length && isDigit(signs[next])) {
                number = number * 10 + signs[next] - '0';
                next++;
            }
            addToken(next - from > MOST_DIGITS ? Token.BAD : Token.NUMBER, from, number);
            return next;
        }

        private void addToken(Token added, int from, long worth) {
            if (size < MOST_TOKENS) {
                tokens[size] = added;
                starts[size] = from;
                values[size] = worth;
                size++;
            }
        }

        private static boolean isLetter(int sign) {
            return sign >= 'a' && sign <= 'z';
        }

        private static boolean isDigit(int sign) {
            return sign >= '0' && sign <= '9';
        }
    }

    /** An E in the order in which it is worked out: numbers as they are, all else as the steps below 0. */
    private static final class Law {
        static final int LIKING = -1;
        static final int BACK = -2;
        static final int WIVES = -3;
        static final int NOT = -4;
        static final int AND = -5;
        static final int OR = -6;
        static final int LESS = -7;
        static final int EQUAL = -8;
        static final int ADD = -9;
        static final int SUBTRACT = -10;
        static final int MULTIPLY = -11;

        /** Each of the five levels of parts holds back four values at most, one for each kind of joining. */
        private static final int STACK = 24;

        private final int[] steps = new int[TAPE_SIGNS];
        private final int[] stack = new int[STACK];
        private int size;
        private boolean told;

        void clear() {
            size = 0;
            told = false;
        }

        void add(int step) {
            if (size < TAPE_SIGNS) {
                steps[size] = step;
                size++;
            }
        }

        int worth(int liking, int back, int wives) {
            int top = 0;
            for (int i = 0; i < size; i++) {
                int step = steps[i];
                if (step >= WIVES) {
                    if (top < STACK) {
                        stack[top] = valueOf(step, liking, back, wives);
                        top++;
                    }
                } else if (step == NOT) {
                    if (top >= 1) {
                        stack[top - 1] = stack[top - 1] == 0 ? 1 : 0;
                    }
                } else if (top >= 2) {
                    top--;
                    stack[top - 1] = joined(step, stack[top - 1], stack[top]);
                }
            }
            return stack[0];
        }

        private static int valueOf(int step, int liking, int back, int wives) {
            switch (step) {
                case LIKING:
                    return liking;
                case BACK:
                    return back;
                case WIVES:
                    return wives;
                default:
                    return step;
            }
        }

        private static int joined(int step, int left, int right) {
            switch (step) {
                case AND:
                    return left != 0 && right != 0 ? 1 : 0;
                case OR:
                    return left != 0 || right != 0 ? 1 : 0;
                case LESS:
                    return left < right ? 1 : 0;
                case EQUAL:
                    return left == right ? 1 : 0;
                case ADD:
                    return left + right;
                case SUBTRACT:
                    return left - right;
                default:
                    return left * right;
            }
        }
    }

    /** What a text has told of words, places, people and laws: nothing of it changes with the moments. */
    private static final class Province {
        static final int PLAIN = 0;
        static final int DEAF = 1;
        static final int STAMMER = 2;
        static final int ECHO = 3;

        private final long[] names = new long[MOST_NAMES];
        private final int[] numbers = new int[MOST_NAMES];
        private final Token[] sorts = new Token[MOST_NAMES];
        private int namesTold;
        private int sayings;
        private int places;
        private int people;
        private final int[] kind = new int[MOST_PEOPLE];
        private final int[] home = new int[MOST_PEOPLE];
        private final int[] shy = new int[MOST_PEOPLE];
        private final int[][] odds = new int[MOST_PEOPLE][MOST_SAYINGS];
        private final int[][] liking = new int[MOST_PEOPLE][MOST_PEOPLE];
        /** A liking of 0 may be told, so that it is told is held apart: for each person the others as bits. */
        private final int[] likingTold = new int[MOST_PEOPLE];
        private int kept;
        private final Law counts = new Law();
        private final Law parts = new Law();

        Province() {
            setLaws();
        }

        void clear() {
            namesTold = 0;
            sayings = 0;
            places = 0;
            people = 0;
            kept = 0;
            for (int person = 0; person < MOST_PEOPLE; person++) {
                Arrays.fill(odds[person], 0);
                Arrays.fill(liking[person], 0);
                likingTold[person] = 0;
            }
            setLaws();
        }

        /** The laws of a province that tells none: all counts, and parting costs 1 + liking + back. */
        private void setLaws() {
            counts.clear();
            counts.add(1);
            parts.clear();
            parts.add(1);
            parts.add(Law.LIKING);
            parts.add(Law.ADD);
            parts.add(Law.BACK);
            parts.add(Law.ADD);
        }

        boolean hasSaying(int saying) {
            return saying >= 0 && saying < sayings;
        }

        boolean hasPlace(int place) {
            return place >= 0 && place < places;
        }

        boolean hasPerson(int person) {
            return person >= 0 && person < people;
        }

        boolean areTwo(int one, int other) {
            return hasPerson(one) && hasPerson(other) && one != other;
        }

        boolean isDeaf(int person) {
            return kind[person] == DEAF;
        }

        int oddsOfAll(int person) {
            int sum = 0;
            for (int saying = 0; saying < sayings; saying++) {
                sum += odds[person][saying];
            }
            return sum;
        }

        int oddsAndShyness(int person) {
            return oddsOfAll(person) + shy[person];
        }

        /** A sort is the word that tells its names: WORD, PLACE or PERSON. */
        int find(Token sort, long letters) {
            for (int i = 0; i < namesTold; i++) {
                if (names[i] == letters && sorts[i] == sort) {
                    return numbers[i];
                }
            }
            return NONE;
        }

        boolean hasName(long letters) {
            for (int i = 0; i < namesTold; i++) {
                if (names[i] == letters) {
                    return true;
                }
            }
            return false;
        }

        boolean isFull(Token sort) {
            if (sort == Token.WORD) {
                return sayings >= MOST_SAYINGS;
            }
            return sort == Token.PLACE ? places >= MOST_PLACES : people >= MOST_PEOPLE;
        }

        /** The number of the name of a sort that is not full. */
        int addName(Token sort, long letters) {
            int number = sort == Token.WORD ? sayings++ : sort == Token.PLACE ? places++ : people++;
            if (namesTold < MOST_NAMES) {
                names[namesTold] = letters;
                sorts[namesTold] = sort;
                numbers[namesTold] = number;
                namesTold++;
            }
            return number;
        }
    }

    /** The lines of a told day, and what came of it when it was judged. */
    private static final class Day {
        private final Token[] verb = new Token[MOST_LINES];
        private final int[] first = new int[MOST_LINES];
        private final int[] second = new int[MOST_LINES];
        private int size;
        private int firstImpossible;
        private int firstBigamy;

        void add(Token lineVerb, int lineFirst, int lineSecond) {
            if (size < MOST_LINES) {
                verb[size] = lineVerb;
                first[size] = lineFirst;
                second[size] = lineSecond;
                size++;
            }
        }

        void judge(Province land, Scene stage) {
            stage.begin(land);
            firstImpossible = NONE;
            firstBigamy = NONE;
            for (int line = 0; line < size; line++) {
                if (!perform(line, land, stage) && firstImpossible == NONE) {
                    firstImpossible = line;
                }
                if (verb[line] == Token.MOMENT && firstBigamy == NONE && stage.bigamistBits() != 0) {
                    firstBigamy = line;
                }
            }
        }

        private boolean perform(int line, Province land, Scene stage) {
            int one = first[line];
            int other = second[line];
            if (verb[line] == Token.WALK) {
                return stage.walkTo(one, other);
            }
            if (verb[line] == Token.PART) {
                return stage.separate(land, one, other) != NONE;
            }
            if (verb[line] == Token.KEEP) {
                return stage.grant(one, other);
            }
            if (verb[line] == Token.MOMENT) {
                stage.passMoment(land);
            } else {
                stage.toSay[one] = verb[line] == Token.SAY ? other : NONE;
            }
            return true;
        }
    }

    /** Reads the tape by the language; from the first wrong token on nothing more is read. */
    private static final class Reader {
        private static final int MISPLACED = 1;
        private static final int UNKNOWN = 2;
        private static final int TWICE = 3;
        private static final int WRONG_NUMBER = 4;
        private static final int TOO_MANY = 5;
        private static final int MOST_AROUND = 5;

        private final Tape tape;
        private int fault;

        Reader(Tape tape) {
            this.tape = tape;
        }

        int readProvince(Province draft) {
            fault = 0;
            draft.clear();
            tape.open();
            for (int line = 0; line <= TAPE_SIGNS && fault == 0 && tape.token != Token.END; line++) {
                readProvinceLine(draft);
            }
            return fault;
        }

        int readDay(Day draft, Province land) {
            fault = 0;
            draft.size = 0;
            tape.open();
            for (int line = 0; line <= TAPE_SIGNS && fault == 0 && tape.token != Token.END; line++) {
                readDayLine(draft, land);
            }
            return fault;
        }

        private void readProvinceLine(Province draft) {
            switch (tape.token) {
                case WORD:
                case PLACE:
                    readNewName(draft);
                    break;
                case PERSON:
                    readNewPerson(draft);
                    break;
                case SAYS:
                    readOdds(draft);
                    break;
                case LIKES:
                    readLiking(draft);
                    break;
                case KEPT:
                    readKept(draft);
                    break;
                case COUNTS:
                    readLaw(draft.counts);
                    break;
                case PARTS:
                    readLaw(draft.parts);
                    break;
                default:
                    blame(MISPLACED);
            }
            expect(Token.SEMICOLON);
        }

        private int readNewName(Province draft) {
            Token sort = tape.token;
            blameIf(draft.isFull(sort), TOO_MANY);
            step();
            blameIf(!tape.token.isName(), MISPLACED);
            blameIf(draft.hasName(tape.value), TWICE);
            int number = fault == 0 ? draft.addName(sort, tape.value) : 0;
            step();
            return number;
        }

        private void readNewPerson(Province draft) {
            int person = readNewName(draft);
            int kind = tape.token.meaning;
            blameIf(tape.token.role != Token.KIND, MISPLACED);
            step();
            expect(Token.AT);
            int home = readKnown(draft, Token.PLACE);
            expect(Token.SHY);
            int shy = readNumber(0);
            if (fault == 0) {
                draft.kind[person] = kind;
                draft.home[person] = home;
                draft.shy[person] = shy;
            }
        }

        private void readOdds(Province draft) {
            step();
            int person = readKnown(draft, Token.PERSON);
            int saying = lookUp(draft, Token.WORD);
            blameIf(fault == 0 && draft.odds[person][saying] > 0, TWICE);
            step();
            int odds = readNumber(1);
            if (fault == 0) {
                draft.odds[person][saying] = odds;
            }
        }

        private void readLiking(Province draft) {
            step();
            int person = readKnown(draft, Token.PERSON);
            int other = lookUp(draft, Token.PERSON);
            blameIf(fault == 0 && (other == person || hasBit(draft.likingTold[person], other)), TWICE);
            step();
            int liking = readNumber(0);
            if (fault == 0) {
                draft.liking[person][other] = liking;
                draft.likingTold[person] |= 1 << other;
            }
        }

        private void readKept(Province draft) {
            step();
            int one = readKnown(draft, Token.PERSON);
            int other = lookUp(draft, Token.PERSON);
            blameIf(fault == 0 && (other == one || (draft.kept & pairBit(one, other)) != 0), TWICE);
            step();
            if (fault == 0) {
                draft.kept |= pairBit(one, other);
            }
        }

        private void readDayLine(Day draft, Province land) {
            Token verb = tape.token;
            int first = 0;
            int second = 0;
            blameIf(!isVerb(verb), MISPLACED);
            blameIf(draft.size >= MOST_LINES, TOO_MANY);
            step();
            if (verb != Token.MOMENT) {
                first = readKnown(land, Token.PERSON);
            }
            if (verb == Token.SAY) {
                second = readKnown(land, Token.WORD);
            } else if (verb == Token.WALK) {
                second = readKnown(land, Token.PLACE);
            } else if (verb == Token.PART || verb == Token.KEEP) {
                second = lookUp(land, Token.PERSON);
                blameIf(fault == 0 && second == first, TWICE);
                step();
            }
            expect(Token.SEMICOLON);
            if (fault == 0) {
                draft.add(verb, first, second);
            }
        }

        private static boolean isVerb(Token token) {
            return token == Token.SAY || token == Token.HUSH || token == Token.WALK || token == Token.PART
                    || token == Token.KEEP || token == Token.MOMENT;
        }

        private void readLaw(Law law) {
            blameIf(law.told, TWICE);
            step();
            law.clear();
            law.told = true;
            readJoined(law, Token.JOINS_TESTS, 0);
        }

        /** A level of an E: what its signs join is of the next level, and below the last level are the parts. */
        private void readJoined(Law law, int level, int around) {
            if (level > Token.JOINS_PARTS) {
                readPart(law, around);
                return;
            }
            int mostJoints = level == Token.JOINS_SUMS ? 1 : TAPE_SIGNS;
            readJoined(law, level + 1, around);
            for (int i = 0; i < mostJoints && fault == 0 && tape.token.role == level; i++) {
                int joint = tape.token.meaning;
                step();
                readJoined(law, level + 1, around);
                law.add(joint);
            }
        }

        private void readPart(Law law, int around) {
            Token token = tape.token;
            int number = (int) tape.value;
            blameIf(!token.startsPart(), MISPLACED);
            blameIf(around >= MOST_AROUND, TOO_MANY);
            step();
            if (fault != 0) {
                return;
            }
            if (token == Token.NOT) {
                readPart(law, around + 1);
                law.add(Law.NOT);
            } else if (token == Token.OPEN) {
                readJoined(law, Token.JOINS_TESTS, around + 1);
                blameIf(tape.token != Token.CLOSE, MISPLACED);
                step();
            } else {
                law.add(token == Token.NUMBER ? number : token.meaning);
            }
        }

        private int readKnown(Province land, Token sort) {
            int number = lookUp(land, sort);
            step();
            return number;
        }

        /** Stays at the name, for more may be wrong with it. */
        private int lookUp(Province land, Token sort) {
            blameIf(!tape.token.isName(), MISPLACED);
            int number = fault == 0 ? land.find(sort, tape.value) : NONE;
            blameIf(number == NONE, UNKNOWN);
            return number;
        }

        private int readNumber(int least) {
            int number = (int) tape.value;
            blameIf(tape.token != Token.NUMBER, MISPLACED);
            blameIf(number < least || number > 9, WRONG_NUMBER);
            step();
            return number;
        }

        private void expect(Token wanted) {
            blameIf(tape.token != wanted, MISPLACED);
            step();
        }

        private void step() {
            if (fault == 0) {
                tape.advance();
            }
        }

        private void blameIf(boolean wrong, int kind) {
            if (wrong) {
                blame(kind);
            }
        }

        /** Only the first wrong token's least kind is told, and kinds are tried from the least on. */
        private void blame(int kind) {
            if (fault == 0) {
                fault = kind + 16 * tape.start;
            }
        }
    }

    /** All that moments, hands and ears change. */
    private static final class Scene {
        private int time;
        private int wed;
        private int kept;
        private int paid;
        private final int[] place = new int[MOST_PEOPLE];
        private final int[] toSay = new int[MOST_PEOPLE];
        private final int[] wasToSay = new int[MOST_PEOPLE];
        private final int[] utters = new int[MOST_PEOPLE];
        /** By places, what an echo that comes there has to repeat. */
        private final int[] lastUttered = new int[MOST_PLACES];
        private final int[] heard = new int[MOST_HEARD];
        private int heardSize;

        void begin(Province land) {
            time = 0;
            wed = 0;
            kept = land.kept;
            paid = 0;
            heardSize = 0;
            System.arraycopy(land.home, 0, place, 0, MOST_PEOPLE);
            Arrays.fill(toSay, NONE);
            Arrays.fill(wasToSay, NONE);
            Arrays.fill(lastUttered, NONE);
        }

        void copyAll(Scene other) {
            copyButHeard(other);
            heardSize = other.heardSize;
            System.arraycopy(other.heard, 0, heard, 0, MOST_HEARD);
        }

        /** What was heard is not done by hand, so that it can't be undone either. */
        void copyButHeard(Scene other) {
            time = other.time;
            wed = other.wed;
            kept = other.kept;
            paid = other.paid;
            System.arraycopy(other.place, 0, place, 0, MOST_PEOPLE);
            System.arraycopy(other.toSay, 0, toSay, 0, MOST_PEOPLE);
            System.arraycopy(other.wasToSay, 0, wasToSay, 0, MOST_PEOPLE);
            System.arraycopy(other.lastUttered, 0, lastUttered, 0, MOST_PLACES);
        }

        boolean areWed(int one, int other) {
            return (wed & pairBit(one, other)) != 0;
        }

        boolean areKept(int one, int other) {
            return (kept & pairBit(one, other)) != 0;
        }

        boolean mayPair(Province land, int one, int other) {
            return !land.isDeaf(one) && !land.isDeaf(other) && (kept & pairBit(one, other)) == 0;
        }

        boolean couldSnap(Province land, int one, int other) {
            return place[one] == place[other] && mayPair(land, one, other) && !areWed(one, other);
        }

        boolean clash(Province land, int one, int other) {
            if (!couldSnap(land, one, other)) {
                return false;
            }
            for (int saying = 0; saying < land.sayings; saying++) {
                if (land.odds[one][saying] > 0 && land.odds[other][saying] > 0) {
                    return true;
                }
            }
            return false;
        }

        int talkersAt(Province land, int where, int saying) {
            int bits = 0;
            for (int person = 0; person < land.people; person++) {
                if (place[person] == where && land.odds[person][saying] > 0) {
                    bits |= 1 << person;
                }
            }
            return bits;
        }

        int spousesOf(int person) {
            int bits = 0;
            for (int other = 0; other < MOST_PEOPLE; other++) {
                if (other != person && areWed(person, other)) {
                    bits |= 1 << other;
                }
            }
            return bits;
        }

        int spouseCount(int person) {
            return Integer.bitCount(wed & PAIRS_OF[person]);
        }

        int bigamistBits() {
            int bits = 0;
            for (int person = 0; person < MOST_PEOPLE; person++) {
                if (spouseCount(person) >= 2) {
                    bits |= 1 << person;
                }
            }
            return bits;
        }

        int utteranceOf(Province land, int person) {
            if (land.kind[person] == Province.STAMMER) {
                return wasToSay[person];
            }
            if (land.kind[person] == Province.ECHO && toSay[person] == NONE) {
                return lastUttered[place[person]];
            }
            return toSay[person];
        }

        int passMoment(Province land) {
            for (int person = 0; person < land.people; person++) {
                utters[person] = utteranceOf(land, person);
            }
            int fresh = wedAlike(land);
            keepUtterances(land);
            System.arraycopy(toSay, 0, wasToSay, 0, MOST_PEOPLE);
            Arrays.fill(toSay, NONE);
            time++;
            return fresh;
        }

        private int wedAlike(Province land) {
            int fresh = 0;
            for (int one = 0; one < land.people; one++) {
                for (int other = one + 1; other < land.people; other++) {
                    boolean alike = utters[one] != NONE && utters[one] == utters[other];
                    if (alike && couldSnap(land, one, other) && worthOf(land.counts, land, one, other) != 0) {
                        wed |= pairBit(one, other);
                        fresh |= pairBit(one, other);
                    }
                }
            }
            return fresh;
        }

        /** From the last person to the first, so that the least number's saying stays. */
        private void keepUtterances(Province land) {
            Arrays.fill(lastUttered, NONE);
            for (int person = land.people - 1; person >= 0; person--) {
                if (utters[person] != NONE) {
                    lastUttered[place[person]] = utters[person];
                }
            }
        }

        private int worthOf(Law law, Province land, int one, int other) {
            int lesser = Math.min(one, other);
            int greater = Math.max(one, other);
            int wives = spouseCount(one) + spouseCount(other);
            return law.worth(land.liking[lesser][greater], land.liking[greater][lesser], wives);
        }

        int partingPrice(Province land, int one, int other) {
            return Math.max(0, Math.min(MOST_PAID, worthOf(land.parts, land, one, other)));
        }

        /** What is paid, or NONE if they are not wed. */
        int separate(Province land, int one, int other) {
            if (!areWed(one, other)) {
                return NONE;
            }
            int price = partingPrice(land, one, other);
            wed &= ~pairBit(one, other);
            paid += price;
            return price;
        }

        boolean walkTo(int person, int where) {
            boolean elsewhere = place[person] != where;
            place[person] = where;
            return elsewhere;
        }

        boolean grant(int one, int other) {
            boolean fresh = !areKept(one, other);
            kept |= pairBit(one, other);
            return fresh;
        }

        long drawSayings(Province land, long draws) {
            long last = draws;
            for (int person = 0; person < land.people; person++) {
                int below = land.oddsAndShyness(person);
                if (below > 0) {
                    last = nextDraw(last);
                    toSay[person] = sayingAt(land, person, drawn(last, below));
                }
            }
            return last;
        }

        private static int sayingAt(Province land, int person, int drawn) {
            int sum = 0;
            for (int saying = 0; saying < land.sayings; saying++) {
                sum += land.odds[person][saying];
                if (sum > drawn) {
                    return saying;
                }
            }
            return NONE;
        }

        long drawWalk(Province land, long draws) {
            if (land.people == 0 || land.places == 0) {
                return draws;
            }
            long first = nextDraw(draws);
            long second = nextDraw(first);
            walkTo(drawn(first, land.people), drawn(second, land.places));
            return second;
        }

        private static long nextDraw(long draws) {
            return (draws * 1103515245L + 12345L) % 2147483648L;
        }

        private static int drawn(long draws, int below) {
            return below > 0 ? (int) (draws / 65536L % below) : 0;
        }
    }

    /** The scenes ahead of the last deeds by hand, in a ring. */
    private static final class History {
        private final Scene[] scenes = new Scene[MOST_UNDONE];
        private int next;
        private int size;

        History() {
            for (int i = 0; i < MOST_UNDONE; i++) {
                scenes[i] = new Scene();
            }
        }

        void remember(Scene scene) {
            scenes[next].copyButHeard(scene);
            next = (next + 1) % MOST_UNDONE;
            size = Math.min(size + 1, MOST_UNDONE);
        }

        boolean giveBack(Scene scene) {
            if (size == 0) {
                return false;
            }
            next = (next + MOST_UNDONE - 1) % MOST_UNDONE;
            size--;
            scene.copyButHeard(scenes[next]);
            return true;
        }
    }

    /** What follows from how likely people say what. */
    private static final class Odds {
        private static final int MOST_MOMENTS = 200;

        private Odds() {
        }

        static int ofTwo(Province land, Scene scene, int one, int other) {
            int all = land.oddsAndShyness(one) * land.oddsAndShyness(other);
            if (all == 0 || !scene.couldSnap(land, one, other)) {
                return 0;
            }
            long alike = 0;
            for (int saying = 0; saying < land.sayings; saying++) {
                alike += land.odds[one][saying] * land.odds[other][saying];
            }
            return (int) (alike * MILLION / all);
        }

        static int afterSome(int chance, int moments) {
            long left = MILLION;
            for (int i = 0; i < moments; i++) {
                left = left * (MILLION - chance) / MILLION;
            }
            return (int) (MILLION - left);
        }

        static int untilHalf(int chance) {
            long left = MILLION;
            for (int moments = 1; moments <= MOST_MOMENTS; moments++) {
                left = left * (MILLION - chance) / MILLION;
                if (MILLION - left >= MILLION / 2) {
                    return moments;
                }
            }
            return NONE;
        }

        static int safestSaying(Province land, Scene scene, int person) {
            int best = NONE;
            int least = 0;
            for (int saying = 0; saying < land.sayings; saying++) {
                if (land.odds[person][saying] > 0) {
                    int danger = dangerOf(land, scene, person, saying);
                    if (best == NONE || danger < least) {
                        best = saying;
                        least = danger;
                    }
                }
            }
            return best;
        }

        private static int dangerOf(Province land, Scene scene, int person, int saying) {
            int sum = 0;
            for (int other = 0; other < land.people; other++) {
                int all = land.oddsAndShyness(other);
                if (other != person && all > 0 && scene.couldSnap(land, person, other)) {
                    sum += land.odds[other][saying] * MILLION / all;
                }
            }
            return sum;
        }

        /** The scene is the caller's to lose: the person is walked through all places in it. */
        static int safestPlace(Province land, Scene scene, int person) {
            int best = NONE;
            int least = 0;
            for (int place = 0; place < land.places; place++) {
                scene.place[person] = place;
                int danger = 0;
                for (int other = 0; other < land.people; other++) {
                    danger += other == person ? 0 : ofTwo(land, scene, person, other);
                }
                if (best == NONE || danger < least) {
                    best = place;
                    least = danger;
                }
            }
            return best;
        }

        private static boolean maySay(Province land, int person, int saying) {
            if (saying == NONE) {
                return land.shy[person] > 0 || land.oddsOfAll(person) == 0;
            }
            return land.odds[person][saying] > 0;
        }

        static int suspects(Province land, Scene scene) {
            int bits = 0;
            for (int person = 0; person < land.people; person++) {
                boolean fits = true;
                for (int i = 0; i < scene.heardSize; i++) {
                    fits = fits && maySay(land, person, scene.heard[i]);
                }
                if (fits) {
                    bits |= 1 << person;
                }
            }
            return bits;
        }

        /** Products of five chances are compared as fractions, crosswise: these stay far below a long's end. */
        static int likeliest(Province land, Scene scene) {
            int suspects = suspects(land, scene);
            int best = NONE;
            long bestOver = 0;
            long bestUnder = 1;
            for (int person = 0; person < land.people; person++) {
                long over = 1;
                long under = 1;
                for (int i = 0; i < scene.heardSize; i++) {
                    over *= shareOf(land, person, scene.heard[i]);
                    under *= Math.max(1, land.oddsAndShyness(person));
                }
                if (hasBit(suspects, person) && (best == NONE || over * bestUnder > bestOver * under)) {
                    best = person;
                    bestOver = over;
                    bestUnder = under;
                }
            }
            return best;
        }

        /** Who has neither odds nor shyness is sure to say none. */
        private static int shareOf(Province land, int person, int saying) {
            if (saying == NONE) {
                return land.oddsAndShyness(person) == 0 ? 1 : land.shy[person];
            }
            return land.odds[person][saying];
        }

        static int bestQuestion(Province land, Scene scene) {
            int suspects = suspects(land, scene);
            int least = Integer.bitCount(suspects);
            int best = REFUSED;
            for (int saying = NONE; saying < land.sayings; saying++) {
                int may = 0;
                int mayNot = 0;
                for (int person = 0; person < land.people; person++) {
                    if (hasBit(suspects, person)) {
                        boolean fits = maySay(land, person, saying);
                        may += fits ? 1 : 0;
                        mayNot += fits ? 0 : 1;
                    }
                }
                if (Math.max(may, mayNot) < least) {
                    least = Math.max(may, mayNot);
                    best = saying;
                }
            }
            return best;
        }
    }

    /** Weighs all ways in which six people can be by themselves or in twos. */
    private static final class Matchmaker {
        private static final int PAIRINGS = 76;
        private static final int PAIRS = 15;

        /** Pairs as bits, in the order of the rows of who is with whom. */
        private final int[] pairings = new int[PAIRINGS];
        private int size;
        private final int[] price = new int[PAIRS];
        private final int[] has = new int[MOST_PEOPLE];
        private int firstMatch;

        Matchmaker() {
            addPairings(0, 0, 0);
        }

        private void addPairings(int person, int settled, int pairs) {
            if (person >= MOST_PEOPLE) {
                if (size < PAIRINGS) {
                    pairings[size] = pairs;
                    size++;
                }
                return;
            }
            addPairings(person + 1, settled, pairs);
            for (int other = person + 1; other < MOST_PEOPLE && !hasBit(settled, person); other++) {
                if (!hasBit(settled, other)) {
                    addPairings(person + 1, settled | 1 << other, pairs | pairBit(person, other));
                }
            }
        }

        static int partnerIn(int pairs, int person) {
            for (int other = 0; other < MOST_PEOPLE; other++) {
                if (other != person && (pairs & pairBit(person, other)) != 0) {
                    return other;
                }
            }
            return person;
        }

        int countMatches(Province land, Scene scene) {
            int possible = possiblePairs(land, scene);
            int found = 0;
            for (int i = 0; i < PAIRINGS; i++) {
                if ((pairings[i] & ~possible) == 0 && isLasting(land, possible, pairings[i])) {
                    if (found == 0) {
                        firstMatch = pairings[i];
                    }
                    found++;
                }
            }
            return found;
        }

        private static int possiblePairs(Province land, Scene scene) {
            int pairs = 0;
            for (int one = 0; one < land.people; one++) {
                for (int other = one + 1; other < land.people; other++) {
                    if (scene.mayPair(land, one, other)) {
                        pairs |= pairBit(one, other);
                    }
                }
            }
            return pairs;
        }

        private boolean isLasting(Province land, int possible, int pairs) {
            for (int person = 0; person < land.people; person++) {
                int partner = partnerIn(pairs, person);
                has[person] = partner == person ? 0 : land.liking[person][partner];
            }
            for (int one = 0; one < land.people; one++) {
                for (int other = one + 1; other < land.people; other++) {
                    boolean wouldLeave = land.liking[one][other] > has[one] && land.liking[other][one] > has[other];
                    if (wouldLeave && (possible & pairBit(one, other)) != 0) {
                        return false;
                    }
                }
            }
            return true;
        }

        /** Without bigamists what stays wed is a pairing, so that there are few ways to try. */
        int leastParted(Province land, Scene scene) {
            setPrices(land, scene);
            int best = scene.wed;
            for (int i = 0; i < PAIRINGS; i++) {
                int parted = scene.wed & ~pairings[i];
                if ((pairings[i] & ~scene.wed) == 0 && isLess(parted, best)) {
                    best = parted;
                }
            }
            return best;
        }

        private void setPrices(Province land, Scene scene) {
            int pair = 0;
            for (int one = 0; one < MOST_PEOPLE; one++) {
                for (int other = one + 1; other < MOST_PEOPLE && pair < PAIRS; other++) {
                    price[pair] = scene.areWed(one, other) ? scene.partingPrice(land, one, other) : 0;
                    pair++;
                }
            }
        }

        /** By the prices that leastParted has set. */
        int priceOf(int pairs) {
            int sum = 0;
            for (int pair = 0; pair < PAIRS; pair++) {
                sum += hasBit(pairs, pair) ? price[pair] : 0;
            }
            return sum;
        }

        private boolean isLess(int pairs, int others) {
            int byPrice = Integer.compare(priceOf(pairs), priceOf(others));
            if (byPrice != 0) {
                return byPrice < 0;
            }
            int byNumber = Integer.compare(Integer.bitCount(pairs), Integer.bitCount(others));
            return byNumber != 0 ? byNumber < 0 : pairs < others;
        }
    }

    /** The people at one place, and who of them may talk at once. */
    private static final class Parlour {
        private final int[] clashes = new int[MOST_PEOPLE];
        private final int[] turnOf = new int[MOST_PEOPLE];
        private int present;
        private int turns;

        void enter(Province land, Scene scene, int place) {
            present = 0;
            for (int person = 0; person < land.people; person++) {
                clashes[person] = 0;
                if (scene.place[person] == place) {
                    present |= 1 << person;
                    clashes[person] = clashesOf(land, scene, person);
                }
            }
        }

        private static int clashesOf(Province land, Scene scene, int person) {
            int bits = 0;
            for (int other = 0; other < land.people; other++) {
                if (other != person && scene.clash(land, person, other)) {
                    bits |= 1 << other;
                }
            }
            return bits;
        }

        void planTurns() {
            turns = 0;
            Arrays.fill(turnOf, NONE);
            for (int most = 1; most <= MOST_PEOPLE && present != 0 && turns == 0; most++) {
                if (giveTurns(0, most)) {
                    turns = most;
                }
            }
        }

        /** The earliest turns first, person by person, so that the first row is found first. */
        private boolean giveTurns(int person, int most) {
            if (person >= MOST_PEOPLE) {
                return true;
            }
            if (!hasBit(present, person)) {
                return giveTurns(person + 1, most);
            }
            for (int turn = 0; turn < most; turn++) {
                if (isFree(person, turn)) {
                    turnOf[person] = turn;
                    if (giveTurns(person + 1, most)) {
                        return true;
                    }
                }
            }
            turnOf[person] = NONE;
            return false;
        }

        private boolean isFree(int person, int turn) {
            for (int other = 0; other < person; other++) {
                if (turnOf[other] == turn && hasBit(clashes[person], other)) {
                    return false;
                }
            }
            return true;
        }

        /** Sets are tried from the least on, so that of equal ones the least stays. */
        int largestSafe() {
            int best = 0;
            for (int set = 1; set < 1 << MOST_PEOPLE; set++) {
                if ((set & ~present) == 0 && Integer.bitCount(set) > Integer.bitCount(best) && isSafe(set)) {
                    best = set;
                }
            }
            return best;
        }

        private boolean isSafe(int set) {
            for (int person = 0; person < MOST_PEOPLE; person++) {
                if (hasBit(set, person) && (clashes[person] & set) != 0) {
                    return false;
                }
            }
            return true;
        }
    }
}
