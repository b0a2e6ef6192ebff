import java.util.Arrays;

/**
 * Relays judged: who is where when, batons passed in boxes or out of them, acts and the rules that
 * strike them, results, and appeals. The promises that this class keeps stand in ../shared/DOC.md.
 */
public final class BatonZones {
    public static final int NONE = -1;

    private static final int NEVER = -2;
    private static final int NO_SUCH = -2000000;
    private static final int BYTES_FED = 20;
    private static final int MOST_BYTES = 700;
    private static final int MOST_TEAMS = 6;
    private static final int MOST_LEGS = 6;
    private static final int MOST_TOLD = 12;
    private static final int MOST_ACTS = MOST_TOLD + MOST_TEAMS * (MOST_LEGS - 1);
    private static final int MOST_RULES = 8;
    private static final int MOST_OPEN = 6;
    private static final int MOST_UNDONE = 10;
    private static final int LAST_TENTH = 9999;
    private static final int LAST_FREE_TENTH = 999;
    private static final int MOST_SIZE = 99;
    private static final int LEAST_LEG_TENTHS = 20;
    private static final int MOST_LEG_TENTHS = 999;
    private static final int MOST_METRES = 20;
    private static final int FORCED_TENTHS = 20;
    private static final int DM = 10;
    private static final int IMPEDE = 3;
    private static final int BOX = 4;
    /** A key greater than all that can be. */
    private static final int OUT = 2147483647;

    private final int[] tape = new int[MOST_BYTES];
    private int fed;
    private Book told = new Book();
    private Book spare = new Book();
    private final Reader reader = new Reader();
    private final Race race = new Race();
    private final Judge judge = new Judge();
    private final Verdict verdict = new Verdict();
    private final Verdict supposed = new Verdict();
    private final Appeals appeals = new Appeals();

    public BatonZones() {
    }

    // ---- the text

    public int feed(int a, int b, int c, int d, int e) {
        if (fed + BYTES_FED > MOST_BYTES) {
            return NONE;
        }
        feedNumber(a);
        feedNumber(b);
        feedNumber(c);
        feedNumber(d);
        feedNumber(e);
        return fed;
    }

    private void feedNumber(int number) {
        for (int shift = 24; shift >= 0; shift -= 8) {
            if (fed >= 0 && fed < tape.length) {
                tape[fed] = number >> shift & 255;
                fed++;
            }
        }
    }

    public int end(int n) {
        if (n < 0 || n > fed) {
            return NONE;
        }
        fed = n;
        return n;
    }

    public int book() {
        int lines = reader.read(tape, fed, spare);
        fed = 0;
        if (lines == NONE) {
            return NONE;
        }
        Book before = told;
        told = spare;
        spare = before;
        appeals.forget();
        settleAll();
        return lines;
    }

    /** Whatever was told or appealed: acts of boxes and the verdict follow from it anew. */
    private void settleAll() {
        told.settle();
        verdict.decide(told, judge, told.waived);
    }

    public int fault(int what) {
        switch (what) {
            case 0: return reader.fault;
            case 1: return reader.faultPlace;
            default: return NONE;
        }
    }

    public int about(int what) {
        switch (what) {
            case 0: return told.legs;
            case 1: return told.length;
            case 2: return told.before;
            case 3: return told.after;
            case 4: return told.cut;
            case 5: return told.teams;
            case 6: return told.acts;
            case 7: return told.actsTold;
            case 8: return told.rules;
            case 9: return told.through;
            case 10: return told.within;
            case 11: return appeals.kept;
            case 12: return fed;
            default: return NONE;
        }
    }

    public int name(int kind, int k, int i) {
        if (i < 0) {
            return NONE;
        }
        if (kind == 0 && told.hasTeam(k)) {
            return Tokens.letter(told.runner(k).name, i);
        }
        if (kind == 1 && told.hasRule(k)) {
            return Tokens.letter(told.nameOfRule(k), i);
        }
        return NONE;
    }

    public int team(int team, int what) {
        if (!told.hasTeam(team)) {
            return NONE;
        }
        Team runner = told.runner(team);
        switch (what) {
            case 0: return runner.lane;
            case 1: return runner.told;
            case 2: return runner.time();
            case 3: return told.isWhole(team) ? 1 : 0;
            default: return NONE;
        }
    }

    public int lane(int lane) {
        return told.teamInLane(lane);
    }

    // ---- who is where

    private static boolean isTenth(int tenth) {
        return tenth >= 0 && tenth <= LAST_TENTH;
    }

    public int place(int team, int tenth) {
        if (!told.hasTeam(team) || !isTenth(tenth)) {
            return NONE;
        }
        return told.runner(team).whereAt(tenth);
    }

    public int comes(int team, int place) {
        if (!told.hasTeam(team) || place < 0) {
            return NONE;
        }
        return told.runner(team).arrival(place);
    }

    public int order(int tenth, int k) {
        return isTenth(tenth) ? race.kthAt(told, tenth, k) : NONE;
    }

    public int boldest(int team) {
        return told.hasTeam(team) ? race.boldestTenth(told, team) : NONE;
    }

    public int changes(int one, int other) {
        if (!told.hasTeam(one) || !told.hasTeam(other) || one == other) {
            return NONE;
        }
        return race.leadChanges(told, one, other);
    }

    public int cutIn(int k) {
        return told.cut == 0 ? NONE : race.kthToCut(told, k);
    }

    public int behind(int team, int leg) {
        if (!told.hasTeam(team) || leg < 1 || leg > told.legs) {
            return NONE;
        }
        return race.laterToLine(told, team, leg);
    }

    public int crowd(int tenth, int within) {
        if (!isTenth(tenth) || within < 0) {
            return NONE;
        }
        return race.mostWithin(told, tenth, within);
    }

    public int fastest(int leg, int what) {
        if (leg < 1 || leg > told.legs) {
            return NONE;
        }
        int first = race.fastestOf(told, leg);
        if (first == NONE) {
            return NONE;
        }
        switch (what) {
            case 0: return first;
            case 1: return told.runner(first).tenthsOf(leg);
            case 2: return race.sumOf(told, leg);
            default: return NONE;
        }
    }

    // ---- batons

    public int leg(int team, int leg, int what) {
        if (!told.hasLeg(team, leg)) {
            return NONE;
        }
        Team runner = told.runner(team);
        switch (what) {
            case 0: return runner.tenthsOf(leg);
            case 1: return runner.endOf(leg);
            case 2: return runner.metresOf(leg);
            case 3: return told.runInBox(runner, leg, leg - 1);
            case 4: return told.runInBox(runner, leg, leg);
            default: return NONE;
        }
    }

    public int inBox(int team, int tenth) {
        if (!told.hasTeam(team) || !isTenth(tenth)) {
            return NONE;
        }
        return told.isInABox(told.runner(team).whereAt(tenth)) ? 1 : 0;
    }

    // ---- acts, rules

    public int act(int act, int what) {
        if (!told.hasAct(act)) {
            return NO_SUCH;
        }
        Act deed = told.deed(act);
        switch (what) {
            case 0: return deed.kind;
            case 1: return deed.team;
            case 2: return deed.other;
            case 3: return deed.tenth;
            case 4: return deed.size;
            case 5: return (told.waived >> act & 1) == 1 ? 1 : 0;
            default: return NO_SUCH;
        }
    }

    public int fact(int act, int k) {
        if (!told.hasAct(act) || k < 0 || k >= Judge.FACTS) {
            return NO_SUCH;
        }
        judge.lookAt(told, act);
        return judge.factNow(k);
    }

    public int rule(int rule, int what) {
        if (!told.hasRule(rule)) {
            return NO_SUCH;
        }
        switch (what) {
            case 0: return told.kindOfRule(rule);
            case 1: return told.terms.comparisonsOf(rule, 0);
            case 2: return told.terms.isTold(rule, 1) ? told.terms.comparisonsOf(rule, 1) : NONE;
            default: return NO_SUCH;
        }
    }

    private boolean canHold(int rule, int part, int act) {
        return told.hasRule(rule) && told.hasAct(act) && told.terms.isTold(rule, part);
    }

    public int holds(int rule, int part, int act) {
        if (!canHold(rule, part, act)) {
            return NO_SUCH;
        }
        judge.lookAt(told, act);
        return judge.isSo(told.terms, rule, part) ? 1 : 0;
    }

    public int why(int rule, int part, int act, int i) {
        if (!canHold(rule, part, act)) {
            return NO_SUCH;
        }
        judge.lookAt(told, act);
        judge.isSo(told.terms, rule, part);
        return judge.reason(told.terms, rule, part, i);
    }

    public int struckBy(int act, int rule) {
        if (!told.hasAct(act) || !told.hasRule(rule)) {
            return NO_SUCH;
        }
        return verdict.rulesStriking(act) >> rule & 1;
    }

    public int clean(int act, int what) {
        if (!told.wasTold(act) || what < 0 || what > 2) {
            return NO_SUCH;
        }
        return judge.tally(told, act, true, what);
    }

    public int free(int act, int what) {
        if (!told.wasTold(act) || what < 0 || what > 2) {
            return NO_SUCH;
        }
        return judge.tally(told, act, false, what);
    }

    // ---- results

    public int struck(int team, int what) {
        if (!told.hasTeam(team)) {
            return NONE;
        }
        int first = verdict.firstStruckAct(told, team);
        switch (what) {
            case 0: return first;
            case 1: return verdict.firstRuleStriking(first);
            case 2: return verdict.struckActs(told, team);
            default: return NONE;
        }
    }

    public int rank(int team) {
        return told.hasTeam(team) ? verdict.rankByTime(team) : NONE;
    }

    public int result(int k) {
        return verdict.kthOfResult(told, k);
    }

    public int who(int what) {
        switch (what) {
            case 0: return verdict.struck;
            case 1: return verdict.through;
            case 2: return verdict.impeded;
            case 3: return verdict.besides;
            case 4: return verdict.whole;
            default: return NONE;
        }
    }

    public int would(int team) {
        if (!told.hasTeam(team)) {
            return NONE;
        }
        return told.isWhole(team) ? verdict.wouldOf(team) : NEVER;
    }

    public int fairRank(int team) {
        return told.hasTeam(team) ? verdict.rankByWould(team) : NONE;
    }

    public int margin(int k) {
        if (k < 1) {
            return NONE;
        }
        int later = verdict.kthOfResult(told, k);
        int ahead = verdict.kthOfResult(told, k - 1);
        if (later == NONE || ahead == NONE) {
            return NONE;
        }
        return told.runner(later).time() - told.runner(ahead).time();
    }

    public int impeders(int team) {
        return told.hasTeam(team) ? verdict.impedersOf(told, team) : NONE;
    }

    public int again() {
        return verdict.isRunAgain() ? 1 : 0;
    }

    public int winner(int act) {
        if (!told.hasAct(act)) {
            return NONE;
        }
        supposed.decide(told, judge, told.waived ^ 1L << act);
        int first = supposed.kthOfResult(told, 0);
        return first == NONE ? NEVER : first;
    }

    public int stays(int team, int what) {
        if (!told.hasTeam(team) || what < 0 || what > 1) {
            return NONE;
        }
        int waivedBesides = judge.fewestWaived(told, team);
        if (waivedBesides == NEVER || what == 1) {
            return waivedBesides;
        }
        return Integer.bitCount(waivedBesides);
    }

    // ---- appeals

    public int appeal(int act, int what, int v) {
        if (!told.wasTold(act) || what < 0 || what > 1 || v < 0) {
            return NONE;
        }
        Act deed = told.deed(act);
        int was = what == 0 ? deed.tenth : deed.size;
        if (v > (what == 0 ? LAST_TENTH : MOST_SIZE) || v == was) {
            return NONE;
        }
        appeals.keep(what == 0 ? Appeals.TENTH : Appeals.SIZE, act, was, 0, 0);
        if (what == 0) {
            deed.tenth = v;
        } else {
            deed.size = v;
        }
        settleAll();
        return was;
    }

    public int waive(int act) {
        if (!told.wasTold(act)) {
            return NONE;
        }
        appeals.keep(Appeals.WAIVED, act, 0, 0, 0);
        told.waived ^= 1L << act;
        settleAll();
        return (told.waived >> act & 1) == 1 ? 1 : 0;
    }

    public int measure(int team, int leg, int tenths, int metres) {
        if (!told.hasLeg(team, leg) || tenths < LEAST_LEG_TENTHS || tenths > MOST_LEG_TENTHS) {
            return NONE;
        }
        int most = told.mostMetres(leg);
        Team runner = told.runner(team);
        boolean isSo = tenths == runner.tenthsOf(leg) && metres == runner.metresOf(leg);
        if (metres < -most || metres > most || isSo) {
            return NONE;
        }
        appeals.keep(Appeals.MEASURED, team, leg, runner.tenthsOf(leg), runner.metresOf(leg));
        runner.setLeg(leg, tenths, metres);
        settleAll();
        return runner.time();
    }

    public int undo() {
        if (appeals.kept == 0) {
            return NONE;
        }
        appeals.takeBack(told);
        settleAll();
        return appeals.kept;
    }

    /** What stands at a place of a row; 0 where the row has no such place. */
    private static int at(int[] row, int i) {
        return i >= 0 && i < row.length ? row[i] : 0;
    }

    /** Likewise of a row of long numbers. */
    private static long longAt(long[] row, int i) {
        return i >= 0 && i < row.length ? row[i] : 0;
    }

    /** The text cut into tokens: the one at which the reader stands. */
    private static final class Tokens {
        static final int END = 0;
        static final int WORD = 1;
        static final int NUMBER = 2;
        static final int BAD = 3;
        /** Groups of words that are no names, each word in a slot of eight signs. */
        static final String LINES = "track   team    runs    act     rule    through within  ";
        static final String KINDS = "drop    lane    cut     impede  box     ";
        static final String JOINS = "when    excuse  and     or      not     ";
        static final String FACTS = "tenth   size    leg     place   lane    other   ahead   cut     again   forced  rank    ";
        private static final int SLOT = 8;
        private static final int LETTER_BITS = 5;
        private static final int MOST_DIGITS = 4;

        private int[] text = new int[0];
        private int length;
        private int next;
        /** END, WORD, NUMBER, BAD, or the sign itself. */
        int kind;
        int place;
        int number;
        /** Letters of five bits, the first one lowest. */
        long word;

        void open(int[] tape, int bytes) {
            text = tape;
            length = Math.min(bytes, text.length);
            next = 0;
            advance();
        }

        private int byteAt(int i) {
            return i >= 0 && i < length && i < text.length ? text[i] : 0;
        }

        void advance() {
            while (next < length && (byteAt(next) == 32 || byteAt(next) == 10)) {
                next++;
            }
            place = next;
            if (next >= length) {
                kind = END;
                return;
            }
            int sign = byteAt(next);
            if (isLetter(sign)) {
                takeWord();
            } else if (isDigit(sign)) {
                takeNumber();
            } else {
                kind = ";+-*(){}<>=".indexOf((char) sign) >= 0 ? sign : BAD;
                next++;
            }
        }

        private static boolean isLetter(int sign) {
            return sign >= 'a' && sign <= 'z';
        }

        private static boolean isDigit(int sign) {
            return sign >= '0' && sign <= '9';
        }

        private void takeWord() {
            word = 0;
            while (next < length && isLetter(byteAt(next))) {
                if (next - place < SLOT) {
                    word |= (long) (byteAt(next) - 'a' + 1) << LETTER_BITS * (next - place);
                }
                next++;
            }
            kind = next - place <= SLOT ? WORD : BAD;
        }

        private void takeNumber() {
            number = 0;
            while (next < length && isDigit(byteAt(next))) {
                if (next - place < MOST_DIGITS) {
                    number = number * 10 + byteAt(next) - '0';
                }
                next++;
            }
            kind = next - place <= MOST_DIGITS ? NUMBER : BAD;
        }

        /** Which word of a group the token is; NONE if it is none. */
        int indexIn(String group) {
            if (kind != WORD) {
                return NONE;
            }
            for (int slot = 0; (slot + 1) * SLOT <= group.length(); slot++) {
                if (packed(group, slot * SLOT) == word) {
                    return slot;
                }
            }
            return NONE;
        }

        private static long packed(String group, int from) {
            long letters = 0;
            for (int i = 0; i < SLOT && from + i < group.length(); i++) {
                char sign = group.charAt(from + i);
                if (sign != ' ') {
                    letters |= (long) (sign - 'a' + 1) << LETTER_BITS * i;
                }
            }
            return letters;
        }

        boolean isName() {
            return kind == WORD && indexIn(LINES) == NONE && indexIn(KINDS) == NONE
                && indexIn(JOINS) == NONE && indexIn(FACTS) == NONE;
        }

        /** Letter i of a word that was packed; 0 behind it. */
        static int letter(long word, int i) {
            return i < 0 || i >= SLOT ? 0 : (int) (word >> LETTER_BITS * i & 31);
        }
    }

    /** Reads a text into a book, up to its first fault. */
    private static final class Reader {
        static final int BAD_TOKEN = 1;
        static final int MISPLACED = 2;
        static final int BAD_NAME = 3;
        static final int BAD_NUMBER = 4;
        static final int TOO_MANY = 5;
        static final int ONCE_MORE = 6;
        static final int TOO_DEEP = 7;
        private static final int TRACK = 0;
        private static final int TEAM = 1;
        private static final int RUNS = 2;
        private static final int ACT = 3;
        private static final int RULE = 4;
        private static final int THROUGH = 5;
        private static final int WITHIN = 6;
        private static final int WHEN = 0;
        private static final int EXCUSE = 1;

        private final Tokens tokens = new Tokens();
        private final Conditions conditions = new Conditions();
        private boolean throughTold;
        private boolean withinTold;
        /** The number that was taken last. */
        private int taken;
        int fault;
        int faultPlace = NONE;

        /** How many lines the text has; NONE at a fault: the book is half told then. */
        int read(int[] tape, int bytes, Book book) {
            book.clear();
            throughTold = false;
            withinTold = false;
            fault = 0;
            faultPlace = NONE;
            tokens.open(tape, bytes);
            if (!readTrack(book)) {
                return NONE;
            }
            int lines = 0;
            for (; lines < MOST_BYTES && tokens.kind != Tokens.END; lines++) {
                boolean isRead;
                switch (tokens.indexIn(Tokens.LINES)) {
                    case TEAM: isRead = readTeam(book); break;
                    case RUNS: isRead = readRuns(book); break;
                    case ACT: isRead = readAct(book); break;
                    case RULE: isRead = readRule(book); break;
                    case THROUGH: isRead = readThrough(book); break;
                    case WITHIN: isRead = readWithin(book); break;
                    default: isRead = fail(MISPLACED); break;
                }
                if (!isRead || !takeSign(';')) {
                    return NONE;
                }
            }
            return lines;
        }

        /** The fault at the token; what is no token can stand nowhere. */
        private boolean fail(int kind) {
            fault = tokens.kind == Tokens.BAD ? BAD_TOKEN : kind;
            faultPlace = tokens.place;
            return false;
        }

        private boolean takeSign(char sign) {
            if (tokens.kind != sign) {
                return fail(MISPLACED);
            }
            tokens.advance();
            return true;
        }

        private boolean takeWord(String group, int which) {
            if (tokens.indexIn(group) != which) {
                return fail(MISPLACED);
            }
            tokens.advance();
            return true;
        }

        private boolean takeNumber(int least, int most) {
            if (tokens.kind != Tokens.NUMBER) {
                return fail(MISPLACED);
            }
            if (tokens.number < least || tokens.number > most) {
                return fail(BAD_NUMBER);
            }
            taken = tokens.number;
            tokens.advance();
            return true;
        }

        private boolean readTrack(Book book) {
            if (!takeWord(Tokens.LINES, TRACK) || !takeNumber(2, MOST_LEGS)) {
                return false;
            }
            book.legs = taken;
            if (!takeNumber(50, 400)) {
                return false;
            }
            book.length = taken;
            if (!takeNumber(0, 20)) {
                return false;
            }
            book.before = taken;
            if (!takeNumber(0, 20)) {
                return false;
            }
            book.after = taken;
            if (!takeNumber(0, book.length)) {
                return false;
            }
            book.cut = taken;
            return takeSign(';');
        }

        private boolean readTeam(Book book) {
            if (book.teams >= MOST_TEAMS) {
                return fail(TOO_MANY);
            }
            tokens.advance();
            if (!tokens.isName()) {
                return fail(MISPLACED);
            }
            if (book.isNameTaken(tokens.word)) {
                return fail(BAD_NAME);
            }
            long name = tokens.word;
            tokens.advance();
            if (tokens.kind == Tokens.NUMBER && book.teamInLane(tokens.number) != NONE) {
                return fail(BAD_NUMBER);
            }
            if (!takeNumber(1, 9)) {
                return false;
            }
            book.addTeam(name, taken);
            return true;
        }

        /** The team whose name the token is; NONE, and a fault, if it is none or one not to be. */
        private int takeTeam(Book book, int notThis) {
            if (!tokens.isName()) {
                fail(MISPLACED);
                return NONE;
            }
            int team = book.teamOfName(tokens.word);
            if (team == NONE || team == notThis) {
                fail(BAD_NAME);
                return NONE;
            }
            tokens.advance();
            return team;
        }

        private boolean readRuns(Book book) {
            tokens.advance();
            int known = tokens.isName() ? book.teamOfName(tokens.word) : NONE;
            if (known != NONE && book.runner(known).told >= book.legs) {
                return fail(TOO_MANY);
            }
            int team = takeTeam(book, NONE);
            if (team == NONE || !takeNumber(LEAST_LEG_TENTHS, MOST_LEG_TENTHS)) {
                return false;
            }
            int tenths = taken;
            boolean ahead = tokens.kind == '-';
            if (ahead) {
                tokens.advance();
            }
            Team runner = book.runner(team);
            if (!takeNumber(0, book.mostMetres(runner.told + 1))) {
                return false;
            }
            runner.addLeg(tenths, ahead ? -taken : taken);
            return true;
        }

        private boolean readAct(Book book) {
            if (book.actsTold >= MOST_TOLD) {
                return fail(TOO_MANY);
            }
            tokens.advance();
            int kind = tokens.indexIn(Tokens.KINDS);
            if (kind == NONE || kind == BOX) {
                return fail(MISPLACED);
            }
            tokens.advance();
            int team = takeTeam(book, NONE);
            if (team == NONE) {
                return false;
            }
            int other = kind == IMPEDE ? takeTeam(book, team) : NONE;
            if (fault != 0 || !takeNumber(0, LAST_TENTH)) {
                return false;
            }
            int tenth = taken;
            if (!takeNumber(0, MOST_SIZE)) {
                return false;
            }
            book.addAct(kind, team, other, tenth, taken);
            return true;
        }

        private boolean readRule(Book book) {
            if (book.rules >= MOST_RULES) {
                return fail(TOO_MANY);
            }
            tokens.advance();
            if (!tokens.isName()) {
                return fail(MISPLACED);
            }
            if (book.isNameTaken(tokens.word)) {
                return fail(BAD_NAME);
            }
            long name = tokens.word;
            tokens.advance();
            int kind = tokens.indexIn(Tokens.KINDS);
            if (kind == NONE) {
                return fail(MISPLACED);
            }
            tokens.advance();
            if (!takeWord(Tokens.JOINS, WHEN)) {
                return false;
            }
            int wrong = conditions.read(tokens, book.terms, Terms.condition(book.rules, 0));
            if (wrong == 0 && tokens.indexIn(Tokens.JOINS) == EXCUSE) {
                tokens.advance();
                wrong = conditions.read(tokens, book.terms, Terms.condition(book.rules, 1));
            }
            if (wrong != 0) {
                return fail(wrong);
            }
            book.addRule(name, kind);
            return true;
        }

        private boolean readThrough(Book book) {
            if (throughTold) {
                return fail(ONCE_MORE);
            }
            tokens.advance();
            if (!takeNumber(1, MOST_TEAMS)) {
                return false;
            }
            throughTold = true;
            book.through = taken;
            return true;
        }

        private boolean readWithin(Book book) {
            if (withinTold) {
                return fail(ONCE_MORE);
            }
            tokens.advance();
            if (!takeNumber(0, 99)) {
                return false;
            }
            withinTold = true;
            book.within = taken;
            return true;
        }
    }

    /** Reads what must hold, token by token, into terms whose operands stand ahead of them. */
    private static final class Conditions {
        private static final int AND = 2;
        private static final int OR = 3;
        private static final int NOT = 4;
        /** On each of the levels that may be open five operators wait at most, and what opened it. */
        private static final int MOST_WAITING = 64;
        private static final int WANTS_TRUTH = 0;
        private static final int WANTS_NUMBER = 1;
        private static final int HAS_NUMBER = 2;
        private static final int HAS_TRUTH = 3;

        private int state;
        /** ( { not that are open. */
        private int open;
        /** { that are open in this comparison. */
        private int curly;
        /** Whether the sign of this comparison has been. */
        private boolean compared;
        /** Operators that wait for what is behind them, each with the operand ahead of it. */
        private final int[] waiting = new int[MOST_WAITING];
        private final int[] operand = new int[MOST_WAITING];
        private int waits;

        /** 0, and the token is that behind the condition; else which fault there is at the token. */
        int read(Tokens tokens, Terms terms, int condition) {
            state = WANTS_TRUTH;
            open = 0;
            waits = 0;
            terms.begin(condition);
            for (int steps = 0; steps <= MOST_BYTES; steps++) {
                if (state == HAS_NUMBER && comparisonEnds(tokens)) {
                    reduce(terms, Terms.NOT);
                    state = HAS_TRUTH;
                }
                if (state == HAS_TRUTH && truthEnds(tokens)) {
                    reduce(terms, Terms.OR);
                    terms.finish();
                    return open == 0 ? 0 : Reader.MISPLACED;
                }
                if (state == WANTS_TRUTH && comparisonStarts(tokens)) {
                    compared = false;
                    curly = 0;
                    state = WANTS_NUMBER;
                }
                int wrong;
                switch (state) {
                    case WANTS_TRUTH: wrong = openOne(terms, tokens.kind == '(' ? Terms.ROUND : Terms.NOT); break;
                    case WANTS_NUMBER: wrong = startNumber(tokens, terms); break;
                    case HAS_NUMBER: wrong = goOnWithNumber(tokens, terms); break;
                    default: wrong = goOnWithTruth(tokens, terms); break;
                }
                if (wrong != 0) {
                    return wrong;
                }
                tokens.advance();
            }
            return Reader.MISPLACED;
        }

        private boolean comparisonEnds(Tokens tokens) {
            return compared && curly == 0
                && tokens.kind != '+' && tokens.kind != '-' && tokens.kind != '*';
        }

        private boolean truthEnds(Tokens tokens) {
            int join = tokens.indexIn(Tokens.JOINS);
            return join != AND && join != OR && (tokens.kind != ')' || open == 0);
        }

        private boolean comparisonStarts(Tokens tokens) {
            return tokens.kind != '(' && tokens.indexIn(Tokens.JOINS) != NOT;
        }

        private int startNumber(Tokens tokens, Terms terms) {
            if (tokens.kind == '{') {
                curly++;
                return openOne(terms, Terms.CURLY);
            }
            int fact = tokens.indexIn(Tokens.FACTS);
            if (tokens.kind != Tokens.NUMBER && fact == NONE) {
                return Reader.MISPLACED;
            }
            if (fact == NONE) {
                terms.put(Terms.NUMBER, tokens.number, 0);
            } else {
                terms.put(Terms.FACT, fact, 0);
            }
            state = HAS_NUMBER;
            return 0;
        }

        private int openOne(Terms terms, int op) {
            if (open >= MOST_OPEN) {
                return Reader.TOO_DEEP;
            }
            open++;
            push(terms, op);
            return 0;
        }

        private int goOnWithNumber(Tokens tokens, Terms terms) {
            switch (tokens.kind) {
                case '+': return join(terms, Terms.PLUS, Terms.PLUS);
                case '-': return join(terms, Terms.MINUS, Terms.PLUS);
                case '*': return join(terms, Terms.TIMES, Terms.TIMES);
                case '<': return join(terms, Terms.LESS, Terms.LESS);
                case '>': return join(terms, Terms.MORE, Terms.LESS);
                case '=': return join(terms, Terms.LIKE, Terms.LESS);
                case '}': return closeCurly(terms);
                default: return Reader.MISPLACED;
            }
        }

        private int closeCurly(Terms terms) {
            if (curly == 0) {
                return Reader.MISPLACED;
            }
            reduce(terms, Terms.OR);
            curly--;
            open--;
            waits--;
            return 0;
        }

        private int goOnWithTruth(Tokens tokens, Terms terms) {
            if (tokens.kind == ')') {
                reduce(terms, Terms.OR);
                open--;
                waits--;
                reduce(terms, Terms.NOT);
                return 0;
            }
            int op = tokens.indexIn(Tokens.JOINS) == AND ? Terms.AND : Terms.OR;
            return join(terms, op, op);
        }

        /** An operator waits for what is behind it; those ahead that bind as tight as a certain one don't any more. */
        private int join(Terms terms, int op, int tightest) {
            if (Terms.isComparison(op)) {
                if (compared || curly > 0) {
                    return Reader.MISPLACED;
                }
                compared = true;
            }
            reduce(terms, tightest);
            push(terms, op);
            state = op == Terms.AND || op == Terms.OR ? WANTS_TRUTH : WANTS_NUMBER;
            return 0;
        }

        private void push(Terms terms, int op) {
            if (waits >= 0 && waits < MOST_WAITING) {
                waiting[waits] = op;
                operand[waits] = terms.size - 1;
                waits++;
            }
        }

        /** Operators that bind as tight as one or tighter have what is behind them, the latest first. */
        private void reduce(Terms terms, int tightest) {
            while (waits > 0 && waits <= MOST_WAITING && waiting[waits - 1] >= tightest) {
                waits--;
                int op = waiting[waits];
                if (op == Terms.NOT) {
                    open--;
                }
                terms.put(op, 0, operand[waits]);
            }
        }
    }

    /** The conditions of all rules, each operator behind its operands. */
    private static final class Terms {
        static final int NUMBER = 0;
        static final int FACT = 1;
        static final int ROUND = 2;
        static final int CURLY = 3;
        /** From here on the looser ahead of the tighter. */
        static final int OR = 4;
        static final int AND = 5;
        static final int NOT = 6;
        static final int LESS = 7;
        static final int MORE = 8;
        static final int LIKE = 9;
        static final int PLUS = 10;
        static final int MINUS = 11;
        static final int TIMES = 12;
        private static final int PARTS = 2;

        /** What a term does; its number, fact or number of the comparison; its left operand. */
        private final int[] op = new int[MOST_BYTES];
        private final int[] number = new int[MOST_BYTES];
        private final int[] left = new int[MOST_BYTES];
        private final int[] from = new int[MOST_RULES * PARTS];
        private final int[] to = new int[MOST_RULES * PARTS];
        private final int[] comparisons = new int[MOST_RULES * PARTS];
        private int written;
        int size;

        static int condition(int rule, int part) {
            return rule * PARTS + part;
        }

        void clear() {
            size = 0;
            Arrays.fill(from, 0);
            Arrays.fill(to, 0);
            Arrays.fill(comparisons, 0);
        }

        void begin(int condition) {
            if (condition >= 0 && condition < from.length) {
                written = condition;
                from[condition] = size;
                comparisons[condition] = 0;
            }
        }

        void finish() {
            if (written >= 0 && written < to.length) {
                to[written] = size;
            }
        }

        void put(int what, int value, int leftOperand) {
            if (size < 0 || size >= MOST_BYTES || written < 0 || written >= comparisons.length) {
                return;
            }
            op[size] = what;
            number[size] = value;
            left[size] = leftOperand;
            if (what >= LESS && what <= LIKE) {
                number[size] = comparisons[written];
                comparisons[written]++;
            }
            size++;
        }

        static boolean isComparison(int op) {
            return op >= LESS && op <= LIKE;
        }

        boolean isTold(int rule, int part) {
            return part >= 0 && part < PARTS && fromOf(rule, part) < toOf(rule, part);
        }

        int comparisonsOf(int rule, int part) {
            return at(comparisons, condition(rule, part));
        }

        int fromOf(int rule, int part) {
            return at(from, condition(rule, part));
        }

        int toOf(int rule, int part) {
            return Math.min(at(to, condition(rule, part)), MOST_BYTES);
        }

        int opAt(int i) {
            return at(op, i);
        }

        int numberAt(int i) {
            return at(number, i);
        }

        int leftOf(int i) {
            return at(left, i);
        }
    }

    /** A team and its legs, from 1 on. */
    private static final class Team {
        private final int[] tenths = new int[MOST_LEGS + 1];
        private final int[] metres = new int[MOST_LEGS + 1];
        /** The tenth at which a leg ends, the place at which the baton is passed on then. */
        private final int[] ends = new int[MOST_LEGS + 1];
        private final int[] passes = new int[MOST_LEGS + 1];
        long name;
        int lane;
        int told;

        void addLeg(int legTenths, int legMetres) {
            if (told < MOST_LEGS) {
                told++;
                setLeg(told, legTenths, legMetres);
            }
        }

        void setLeg(int leg, int legTenths, int legMetres) {
            if (leg >= 1 && leg <= MOST_LEGS) {
                tenths[leg] = legTenths;
                metres[leg] = legMetres;
            }
        }

        /** Where and when each leg ends follows from those ahead of it. */
        void settle(int length) {
            for (int leg = 1; leg <= told && leg <= MOST_LEGS; leg++) {
                ends[leg] = ends[leg - 1] + tenths[leg];
                passes[leg] = (leg * length + metres[leg]) * DM;
            }
        }

        int tenthsOf(int leg) {
            return at(tenths, leg);
        }

        int metresOf(int leg) {
            return at(metres, leg);
        }

        int endOf(int leg) {
            return at(ends, leg);
        }

        int passOf(int leg) {
            return at(passes, leg);
        }

        int time() {
            return at(ends, told);
        }

        int legAt(int tenth) {
            for (int leg = 1; leg < told; leg++) {
                if (tenth <= at(ends, leg)) {
                    return leg;
                }
            }
            return Math.max(told, 1);
        }

        int whereAt(int tenth) {
            int leg = legAt(tenth);
            int legTenths = at(tenths, leg);
            if (told == 0 || tenth >= at(ends, told) || legTenths == 0) {
                return told == 0 ? 0 : at(passes, told);
            }
            int from = at(passes, leg - 1);
            int behind = Math.max(tenth - at(ends, leg - 1), 0);
            return from + behind * (at(passes, leg) - from) / legTenths;
        }

        /** The first tenth at which it is at a place or behind it. */
        int arrival(int place) {
            if (place <= 0) {
                return 0;
            }
            for (int leg = 1; leg <= told; leg++) {
                int from = at(passes, leg - 1);
                int way = at(passes, leg) - from;
                if (way > 0 && place <= at(passes, leg)) {
                    return at(ends, leg - 1) + ((place - from) * at(tenths, leg) + way - 1) / way;
                }
            }
            return NEVER;
        }
    }

    /** An act: told, or that a baton was passed. */
    private static final class Act {
        int kind;
        int team;
        int other = NONE;
        int tenth;
        int size;

        void tell(int itsKind, int itsTeam, int itsOther, int itsTenth, int itsSize) {
            kind = itsKind;
            team = itsTeam;
            other = itsOther;
            tenth = itsTenth;
            size = itsSize;
        }
    }

    /** All that a text told, as appeals have left it. */
    private static final class Book {
        private static final int FEW_THROUGH = 2;
        private static final int SMALL_WITHIN = 5;

        int legs;
        int length;
        int before;
        int after;
        int cut;
        int teams;
        int actsTold;
        int acts;
        int rules;
        int through = FEW_THROUGH;
        int within = SMALL_WITHIN;
        /** Acts, bit by bit. */
        long waived;
        final Terms terms = new Terms();
        private final Team[] runners = new Team[MOST_TEAMS];
        private final Act[] deeds = new Act[MOST_ACTS];
        private final long[] ruleNames = new long[MOST_RULES];
        private final int[] ruleKinds = new int[MOST_RULES];
        private final Team nobody = new Team();
        private final Act nothing = new Act();

        Book() {
            for (int team = 0; team < MOST_TEAMS; team++) {
                runners[team] = new Team();
            }
            for (int act = 0; act < MOST_ACTS; act++) {
                deeds[act] = new Act();
            }
        }

        void clear() {
            legs = 0;
            length = 0;
            before = 0;
            after = 0;
            cut = 0;
            teams = 0;
            actsTold = 0;
            acts = 0;
            rules = 0;
            through = FEW_THROUGH;
            within = SMALL_WITHIN;
            waived = 0;
            terms.clear();
        }

        boolean hasTeam(int team) {
            return team >= 0 && team < teams && team < MOST_TEAMS;
        }

        boolean hasRule(int rule) {
            return rule >= 0 && rule < rules && rule < MOST_RULES;
        }

        boolean hasAct(int act) {
            return act >= 0 && act < acts && act < MOST_ACTS;
        }

        boolean wasTold(int act) {
            return act >= 0 && act < actsTold && act < MOST_ACTS;
        }

        boolean hasLeg(int team, int leg) {
            return hasTeam(team) && leg >= 1 && leg <= runner(team).told;
        }

        Team runner(int team) {
            return hasTeam(team) ? runners[team] : nobody;
        }

        Act deed(int act) {
            return act >= 0 && act < MOST_ACTS ? deeds[act] : nothing;
        }

        int kindOfRule(int rule) {
            return at(ruleKinds, rule);
        }

        long nameOfRule(int rule) {
            return longAt(ruleNames, rule);
        }

        boolean isWhole(int team) {
            return legs > 0 && runner(team).told == legs;
        }

        int teamInLane(int lane) {
            for (int team = 0; team < teams; team++) {
                if (runner(team).lane == lane) {
                    return team;
                }
            }
            return NONE;
        }

        int teamOfName(long name) {
            for (int team = 0; team < teams; team++) {
                if (runner(team).name == name) {
                    return team;
                }
            }
            return NONE;
        }

        /** Teams and rules share their names: none of either may have one that any of them has. */
        boolean isNameTaken(long name) {
            if (teamOfName(name) != NONE) {
                return true;
            }
            for (int rule = 0; rule < rules; rule++) {
                if (nameOfRule(rule) == name) {
                    return true;
                }
            }
            return false;
        }

        void addTeam(long name, int lane) {
            if (teams < MOST_TEAMS) {
                teams++;
                Team runner = runner(teams - 1);
                runner.name = name;
                runner.lane = lane;
                runner.told = 0;
            }
        }

        void addAct(int kind, int team, int other, int tenth, int size) {
            deed(actsTold).tell(kind, team, other, tenth, size);
            actsTold++;
        }

        void addRule(long name, int kind) {
            if (rules >= 0 && rules < MOST_RULES) {
                ruleNames[rules] = name;
                ruleKinds[rules] = kind;
                rules++;
            }
        }

        /** How far from its line a leg may pass the baton on: the last one of all can't. */
        int mostMetres(int leg) {
            return leg == legs ? 0 : MOST_METRES;
        }

        /** Runs and acts of boxes follow from what was told. */
        void settle() {
            acts = actsTold;
            for (int team = 0; team < teams; team++) {
                Team runner = runner(team);
                runner.settle(length);
                for (int leg = 1; leg <= runner.told && leg < legs; leg++) {
                    int outside = metresOutside(runner.metresOf(leg));
                    deed(acts).tell(BOX, team, NONE, runner.endOf(leg), outside);
                    acts++;
                }
            }
        }

        private int metresOutside(int metres) {
            return Math.max(Math.max(-before - metres, metres - after), 0);
        }

        private int boxFrom(int line) {
            return (line * length - before) * DM;
        }

        private int boxTo(int line) {
            return (line * length + after) * DM;
        }

        boolean isInABox(int place) {
            for (int line = 1; line < legs; line++) {
                if (place >= boxFrom(line) && place <= boxTo(line)) {
                    return true;
                }
            }
            return false;
        }

        /** How much of a leg lies in the box of a line; ahead of the first leg and behind the last there is none. */
        int runInBox(Team runner, int leg, int line) {
            if (line < 1 || line >= legs) {
                return 0;
            }
            int from = Math.max(runner.passOf(leg - 1), boxFrom(line));
            int to = Math.min(runner.passOf(leg), boxTo(line));
            return Math.max(to - from, 0);
        }

        /** Acts of the kind and the team of one that come ahead of it, were it at a tenth. */
        long earlier(int act, int tenth) {
            Act own = deed(act);
            long found = 0;
            for (int i = 0; i < acts; i++) {
                Act deed = deed(i);
                boolean ahead = deed.tenth < tenth || deed.tenth == tenth && i < act;
                if (i != act && ahead && deed.kind == own.kind && deed.team == own.team) {
                    found |= 1L << i;
                }
            }
            return found;
        }

        /** Acts that impede the team of one shortly ahead of a tenth. */
        long forcers(int act, int tenth) {
            int team = deed(act).team;
            long found = 0;
            for (int i = 0; i < actsTold; i++) {
                Act deed = deed(i);
                boolean near = deed.tenth >= tenth - FORCED_TENTHS && deed.tenth <= tenth;
                if (near && deed.kind == IMPEDE && deed.other == team) {
                    found |= 1L << i;
                }
            }
            return found;
        }

        /** The k-th team by keys, of like ones by lane, without those that are out. */
        int kth(int[] keys, int k) {
            for (int team = 0; team < teams; team++) {
                if (at(keys, team) != OUT && teamsAhead(keys, team) == k) {
                    return team;
                }
            }
            return NONE;
        }

        private int teamsAhead(int[] keys, int team) {
            int key = at(keys, team);
            int ahead = 0;
            for (int other = 0; other < teams; other++) {
                int its = at(keys, other);
                if (its < key || its == key && runner(other).lane < runner(team).lane) {
                    ahead++;
                }
            }
            return ahead;
        }
    }

    /** Who leads, who comes when. */
    private static final class Race {
        private final int[] keys = new int[MOST_TEAMS];

        int kthAt(Book book, int tenth, int k) {
            for (int team = 0; team < MOST_TEAMS; team++) {
                keys[team] = -book.runner(team).whereAt(tenth);
            }
            return book.kth(keys, k);
        }

        /** Behind the last tenth of all teams nothing changes. */
        private int lastTenth(Book book) {
            int last = 0;
            for (int team = 0; team < book.teams; team++) {
                last = Math.max(last, book.runner(team).time());
            }
            return Math.min(last, LAST_TENTH);
        }

        int boldestTenth(Book book, int team) {
            if (book.teams < 2) {
                return NEVER;
            }
            int last = lastTenth(book);
            int bold = 0;
            int most = leadAt(book, team, 0);
            for (int tenth = 1; tenth <= last; tenth++) {
                int lead = leadAt(book, team, tenth);
                if (lead > most) {
                    most = lead;
                    bold = tenth;
                }
            }
            return bold;
        }

        private int leadAt(Book book, int team, int tenth) {
            int farthest = 0;
            for (int other = 0; other < book.teams; other++) {
                if (other != team) {
                    farthest = Math.max(farthest, book.runner(other).whereAt(tenth));
                }
            }
            return book.runner(team).whereAt(tenth) - farthest;
        }

        int leadChanges(Book book, int one, int other) {
            int last = lastTenth(book);
            int found = 0;
            int leader = NONE;
            for (int tenth = 0; tenth <= last; tenth++) {
                int lead = book.runner(one).whereAt(tenth) - book.runner(other).whereAt(tenth);
                if (lead != 0) {
                    int ahead = lead > 0 ? one : other;
                    if (leader != NONE && leader != ahead) {
                        found++;
                    }
                    leader = ahead;
                }
            }
            return found;
        }

        int kthToCut(Book book, int k) {
            for (int team = 0; team < MOST_TEAMS; team++) {
                int comes = book.runner(team).arrival((book.length + book.cut) * DM);
                keys[team] = comes == NEVER ? OUT : comes;
            }
            return book.kth(keys, k);
        }

        int laterToLine(Book book, int team, int leg) {
            int line = leg * book.length * DM;
            int own = book.runner(team).arrival(line);
            if (own == NEVER) {
                return NEVER;
            }
            int first = own;
            for (int other = 0; other < book.teams; other++) {
                int comes = book.runner(other).arrival(line);
                if (comes != NEVER) {
                    first = Math.min(first, comes);
                }
            }
            return own - first;
        }

        int mostWithin(Book book, int tenth, int within) {
            int most = 0;
            for (int team = 0; team < book.teams; team++) {
                int last = book.runner(team).whereAt(tenth);
                int near = 0;
                for (int other = 0; other < book.teams; other++) {
                    int farther = book.runner(other).whereAt(tenth) - last;
                    if (farther >= 0 && farther <= within) {
                        near++;
                    }
                }
                most = Math.max(most, near);
            }
            return most;
        }

        int fastestOf(Book book, int leg) {
            for (int team = 0; team < MOST_TEAMS; team++) {
                keys[team] = book.hasLeg(team, leg) ? book.runner(team).tenthsOf(leg) : OUT;
            }
            return book.kth(keys, 0);
        }

        int sumOf(Book book, int leg) {
            int sum = 0;
            for (int team = 0; team < book.teams; team++) {
                if (book.hasLeg(team, leg)) {
                    sum += book.runner(team).tenthsOf(leg);
                }
            }
            return sum;
        }
    }

    /** What is so of an act, and which conditions hold for it. */
    private static final class Judge {
        static final int FACTS = 11;
        /** What a term comes to that is beyond 32 bits. */
        private static final long BEYOND = 1L << 63;
        private static final int MOST_FORCED = 16;
        private static final int MEMO_LONGS = 4;

        private final int[] facts = new int[FACTS];
        private final long[] value = new long[MOST_BYTES];
        private final int[] weight = new int[MOST_BYTES];
        private final boolean[] chosen = new boolean[MOST_BYTES];
        private final long[] earlier = new long[MOST_ACTS];
        private final long[] forcers = new long[MOST_ACTS];
        /** Of each act and how often it is again and forced: whether that was judged, whether it is struck. */
        private final long[] judged = new long[MOST_ACTS * MEMO_LONGS];
        private final long[] struck = new long[MOST_ACTS * MEMO_LONGS];

        int factNow(int k) {
            return at(facts, k);
        }

        void lookAt(Book book, int act) {
            Act deed = book.deed(act);
            look(book, act, deed.tenth, deed.size, book.waived);
        }

        /** The facts of an act, were it of a tenth and a size and acts waived. */
        void look(Book book, int act, int tenth, int size, long waived) {
            Act deed = book.deed(act);
            Team own = book.runner(deed.team);
            int place = own.whereAt(tenth);
            boolean alone = deed.other == NONE;
            facts[0] = tenth;
            facts[1] = size;
            facts[2] = own.legAt(tenth);
            facts[3] = place / DM;
            facts[4] = own.lane;
            facts[5] = alone ? 0 : book.runner(deed.other).lane;
            facts[6] = alone ? 0 : place - book.runner(deed.other).whereAt(tenth);
            facts[7] = book.cut == 0 ? 0 : book.length + book.cut - place / DM;
            facts[8] = Long.bitCount(book.earlier(act, tenth) & ~waived);
            facts[9] = Long.bitCount(book.forcers(act, tenth) & ~waived);
            int farther = 0;
            for (int team = 0; team < book.teams; team++) {
                if (book.runner(team).whereAt(tenth) > place) {
                    farther++;
                }
            }
            facts[10] = 1 + farther;
        }

        /** Whether a condition holds for the act that was looked at last. */
        boolean isSo(Terms terms, int rule, int part) {
            int from = terms.fromOf(rule, part);
            int to = terms.toOf(rule, part);
            for (int i = from; i >= 0 && i < to && i < value.length; i++) {
                value[i] = work(terms, i);
            }
            return longAt(value, to - 1) == 1;
        }

        private long work(Terms terms, int i) {
            int op = terms.opAt(i);
            if (op == Terms.NUMBER) {
                return terms.numberAt(i);
            }
            if (op == Terms.FACT) {
                return at(facts, terms.numberAt(i));
            }
            long right = longAt(value, i - 1);
            if (op == Terms.NOT) {
                return 1 - right;
            }
            long left = longAt(value, terms.leftOf(i));
            if (op == Terms.AND) {
                return left & right;
            }
            if (op == Terms.OR) {
                return left | right;
            }
            if (left == BEYOND || right == BEYOND) {
                return Terms.isComparison(op) ? 0 : BEYOND;
            }
            return reckon(op, left, right);
        }

        private static long reckon(int op, long left, long right) {
            switch (op) {
                case Terms.LESS: return left < right ? 1 : 0;
                case Terms.MORE: return left > right ? 1 : 0;
                case Terms.LIKE: return left == right ? 1 : 0;
                case Terms.PLUS: return within32(left + right);
                case Terms.MINUS: return within32(left - right);
                default: return within32(left * right);
            }
        }

        private static long within32(long number) {
            return number == (int) number ? number : BEYOND;
        }

        /** How many comparisons tell what isSo() last answered (i NONE), or the i-th of them. */
        int reason(Terms terms, int rule, int part, int i) {
            int from = terms.fromOf(rule, part);
            int to = terms.toOf(rule, part);
            choose(terms, from, to);
            int found = 0;
            for (int k = from; k >= 0 && k < to && k < chosen.length; k++) {
                if (chosen[k] && Terms.isComparison(terms.opAt(k))) {
                    if (found == i) {
                        return terms.numberAt(k);
                    }
                    found++;
                }
            }
            return i == NONE ? found : NONE;
        }

        /** Weighs from the operands up, then chooses from the whole down. */
        private void choose(Terms terms, int from, int to) {
            for (int i = from; i >= 0 && i < to && i < weight.length; i++) {
                weight[i] = weigh(terms, i);
                chosen[i] = i == to - 1;
            }
            for (int i = to - 1; i >= from && i >= 0 && i < chosen.length; i--) {
                int op = terms.opAt(i);
                if (chosen[i] && (op == Terms.AND || op == Terms.OR)) {
                    boolean both = isOfBoth(op, i);
                    boolean leftIs = both || isLeftEnough(terms, i);
                    pick(terms.leftOf(i), leftIs);
                    pick(i - 1, both || !leftIs);
                } else if (chosen[i] && op == Terms.NOT) {
                    pick(i - 1, true);
                }
            }
        }

        private void pick(int i, boolean is) {
            if (i >= 0 && i < chosen.length) {
                chosen[i] = is;
            }
        }

        private int weigh(Terms terms, int i) {
            int op = terms.opAt(i);
            if (Terms.isComparison(op)) {
                return 1;
            }
            int right = at(weight, i - 1);
            if (op == Terms.NOT) {
                return right;
            }
            if (op != Terms.AND && op != Terms.OR) {
                return 0;
            }
            int left = at(weight, terms.leftOf(i));
            if (isOfBoth(op, i)) {
                return left + right;
            }
            return isLeftEnough(terms, i) ? left : right;
        }

        private boolean isOfBoth(int op, int i) {
            return longAt(value, i) == (op == Terms.AND ? 1 : 0);
        }

        /** Whether the left side alone tells it best: it is so as the whole is, and the right one isn't or needs as many. */
        private boolean isLeftEnough(Terms terms, int i) {
            int left = terms.leftOf(i);
            long whole = longAt(value, i);
            if (longAt(value, left) != whole) {
                return false;
            }
            return longAt(value, i - 1) != whole || at(weight, left) <= at(weight, i - 1);
        }

        /** The rules by which an act is struck, bit by bit, were it of a tenth and a size and acts waived. */
        int rulesStriking(Book book, int act, int tenth, int size, long waived) {
            if ((waived >> act & 1) == 1) {
                return 0;
            }
            look(book, act, tenth, size, waived);
            int kind = book.deed(act).kind;
            int found = 0;
            for (int rule = 0; rule < book.rules; rule++) {
                if (book.kindOfRule(rule) == kind && isSo(book.terms, rule, 0)
                    && !(book.terms.isTold(rule, 1) && isSo(book.terms, rule, 1))) {
                    found |= 1 << rule;
                }
            }
            return found;
        }

        /** Of the sizes, or the tenths, with which an act would not be struck: how many, the first, the last. */
        int tally(Book book, int act, boolean ofSizes, int what) {
            Act deed = book.deed(act);
            int most = ofSizes ? MOST_SIZE : LAST_FREE_TENTH;
            int count = 0;
            int first = NONE;
            int last = NONE;
            for (int v = 0; v <= most; v++) {
                int tenth = ofSizes ? deed.tenth : v;
                int size = ofSizes ? v : deed.size;
                if (rulesStriking(book, act, tenth, size, book.waived) == 0) {
                    count++;
                    first = first == NONE ? v : first;
                    last = v;
                }
            }
            return what == 0 ? count : what == 1 ? first : last;
        }

        /** The fewest told acts, bit by bit, that must be waived besides for a team to stay; NEVER: none do. */
        int fewestWaived(Book book, int team) {
            Arrays.fill(judged, 0);
            Arrays.fill(struck, 0);
            for (int act = 0; act < MOST_ACTS; act++) {
                earlier[act] = book.earlier(act, book.deed(act).tenth);
                forcers[act] = book.forcers(act, book.deed(act).tenth);
            }
            int sets = 1 << Math.min(book.actsTold, MOST_TOLD);
            int fewest = MOST_TOLD + 1;
            int best = NEVER;
            for (int set = 0; set < sets; set++) {
                int count = Integer.bitCount(set);
                if ((set & book.waived) == 0 && count < fewest && isUnstruck(book, team, book.waived | set)) {
                    fewest = count;
                    best = set;
                }
            }
            return best;
        }

        /** Waived acts tell in nothing but how often an act is again and forced: each such pair is judged once. */
        private boolean isUnstruck(Book book, int team, long waived) {
            for (int act = 0; act < book.acts; act++) {
                Act deed = book.deed(act);
                int again = Long.bitCount(longAt(earlier, act) & ~waived);
                int forced = Long.bitCount(longAt(forcers, act) & ~waived);
                int pair = again * MOST_FORCED + forced;
                int row = act * MEMO_LONGS + (pair >> 6);
                boolean mayBeStruck = deed.team == team && (waived >> act & 1) == 0;
                if (mayBeStruck && row >= 0 && row < judged.length && row < struck.length) {
                    long bit = 1L << (pair & 63);
                    if ((judged[row] & bit) == 0) {
                        judged[row] |= bit;
                        boolean is = rulesStriking(book, act, deed.tenth, deed.size, waived) != 0;
                        struck[row] |= is ? bit : 0;
                    }
                    if ((struck[row] & bit) != 0) {
                        return false;
                    }
                }
            }
            return true;
        }
    }

    /** Who is struck, and what comes of it. */
    private static final class Verdict {
        /** The rules by which each act is struck, bit by bit. */
        private final int[] strikes = new int[MOST_ACTS];
        private final int[] would = new int[MOST_TEAMS];
        /** TIME and WOULD of those in the result; OUT of the others. */
        private final int[] times = new int[MOST_TEAMS];
        private final int[] fairTimes = new int[MOST_TEAMS];
        int struck;
        int through;
        int impeded;
        int besides;
        int whole;

        void decide(Book book, Judge judge, long waived) {
            struck = 0;
            impeded = 0;
            for (int team = 0; team < MOST_TEAMS; team++) {
                would[team] = book.runner(team).time();
            }
            for (int act = 0; act < book.acts && act < MOST_ACTS; act++) {
                Act deed = book.deed(act);
                strikes[act] = judge.rulesStriking(book, act, deed.tenth, deed.size, waived);
                if (strikes[act] != 0) {
                    strike(deed);
                }
            }
            whole = 0;
            for (int team = 0; team < MOST_TEAMS; team++) {
                boolean isWhole = book.hasTeam(team) && book.isWhole(team);
                boolean isIn = isWhole && (struck >> team & 1) == 0;
                whole |= isWhole ? 1 << team : 0;
                times[team] = isIn ? book.runner(team).time() : OUT;
                fairTimes[team] = isIn ? would[team] : OUT;
            }
            decideThrough(book);
        }

        private void strike(Act deed) {
            struck |= 1 << deed.team;
            if (deed.kind == IMPEDE && deed.other >= 0 && deed.other < MOST_TEAMS) {
                impeded |= 1 << deed.other;
                would[deed.other] -= deed.size;
            }
        }

        private void decideThrough(Book book) {
            through = 0;
            besides = 0;
            int last = 0;
            for (int team = 0; team < MOST_TEAMS; team++) {
                if (isIn(team) && rankOf(times, team) <= book.through) {
                    through |= 1 << team;
                    last = Math.max(last, times[team]);
                }
            }
            for (int team = 0; team < MOST_TEAMS; team++) {
                boolean mayCome = isIn(team) && ((impeded & ~through) >> team & 1) == 1;
                if (mayCome && would[team] <= last + book.within) {
                    besides |= 1 << team;
                }
            }
        }

        private boolean isIn(int team) {
            return at(times, team) != OUT;
        }

        private static int rankOf(int[] keys, int team) {
            int less = 0;
            for (int other = 0; other < MOST_TEAMS; other++) {
                if (at(keys, other) < at(keys, team)) {
                    less++;
                }
            }
            return 1 + less;
        }

        int rankByTime(int team) {
            return isIn(team) ? rankOf(times, team) : NEVER;
        }

        int rankByWould(int team) {
            return isIn(team) ? rankOf(fairTimes, team) : NEVER;
        }

        int wouldOf(int team) {
            return at(would, team);
        }

        int kthOfResult(Book book, int k) {
            return book.kth(times, k);
        }

        boolean isRunAgain() {
            boolean noneFair = (whole & ~struck & ~impeded) == 0;
            return whole != 0 && (noneFair || Integer.bitCount(besides) >= 2);
        }

        int rulesStriking(int act) {
            return at(strikes, act);
        }

        /** NEVER if no rule does. */
        int firstRuleStriking(int act) {
            for (int rule = 0; rule < MOST_RULES; rule++) {
                if ((rulesStriking(act) >> rule & 1) == 1) {
                    return rule;
                }
            }
            return NEVER;
        }

        /** By tenth, then by number. */
        int firstStruckAct(Book book, int team) {
            int first = NEVER;
            for (int act = 0; act < book.acts; act++) {
                Act deed = book.deed(act);
                boolean isOne = deed.team == team && rulesStriking(act) != 0;
                if (isOne && (first == NEVER || deed.tenth < book.deed(first).tenth)) {
                    first = act;
                }
            }
            return first;
        }

        int struckActs(Book book, int team) {
            int count = 0;
            for (int act = 0; act < book.acts; act++) {
                if (book.deed(act).team == team && rulesStriking(act) != 0) {
                    count++;
                }
            }
            return count;
        }

        int impedersOf(Book book, int team) {
            int found = 0;
            for (int act = 0; act < book.actsTold; act++) {
                Act deed = book.deed(act);
                if (deed.kind == IMPEDE && deed.other == team && rulesStriking(act) != 0) {
                    found |= 1 << deed.team;
                }
            }
            return found;
        }
    }

    /** What appeals changed, as it was, the latest ones. */
    private static final class Appeals {
        static final int TENTH = 0;
        static final int SIZE = 1;
        static final int WAIVED = 2;
        static final int MEASURED = 3;
        private static final int FIELDS = 5;

        private final int[] log = new int[MOST_UNDONE * FIELDS];
        /** Where the next one goes, in a ring. */
        private int next;
        int kept;

        void forget() {
            kept = 0;
        }

        void keep(int kind, int a, int b, int c, int d) {
            int from = next * FIELDS;
            if (from >= 0 && from + FIELDS <= log.length) {
                log[from] = kind;
                log[from + 1] = a;
                log[from + 2] = b;
                log[from + 3] = c;
                log[from + 4] = d;
                next = next + 1 < MOST_UNDONE ? next + 1 : 0;
                kept = Math.min(kept + 1, MOST_UNDONE);
            }
        }

        void takeBack(Book book) {
            if (kept == 0) {
                return;
            }
            next = next > 0 ? next - 1 : MOST_UNDONE - 1;
            kept--;
            int from = next * FIELDS;
            int a = at(log, from + 1);
            int b = at(log, from + 2);
            switch (at(log, from)) {
                case TENTH: book.deed(a).tenth = b; break;
                case SIZE: book.deed(a).size = b; break;
                case WAIVED: book.waived ^= 1L << a; break;
                default: book.runner(a).setLeg(b, at(log, from + 3), at(log, from + 4)); break;
            }
        }
    }
}
