/** Bounds that the document names: part I of its terms (the book, its text, tokens, faults) and promises 1 to 9. */
public final class BookBoundsTest {
    private static final String T = "track 2 50 9 9 9;";
    private static final String TEAMS = T + "team a 1;team b 2;";
    private static final String WHEN = TEAMS + "rule r drop when ";
    /** A text with a line of each sort, its tokens parted by blanks. */
    private static final String ALL = "track 3 50 1 2 3 ; team a 1 ; runs a 20 0 ; runs a 20 - 5 ; team b 2 ; act drop a 1 1 ; act impede a b 1 1 ; "
        + "rule r drop when not 1 = 1 and ( 2 < size + 3 or 4 - 5 * 6 > 7 ) excuse rank = 1 ; rule s box when 1 = 1 ; through 1 ; within 1 ;";

    public static void main(String[] args) {
        calls();
        fullTexts();
        trackNumbers();
        lineNumbers();
        lineForms();
        manyLines();
        tokenLengths();
        tokenBytes();
        names();
        cutTexts();
        spoiledTexts();
        endedTooSoon();
        firstFaults();
        nameFaults();
        numberFaults();
        tooMany();
        twice();
        open();
        closed();
        comparisonsBeyond();
        comparisonNumbers();
        newObject();
        feed();
        end();
        book();
        bookFaults();
        booksInARow();
        booksBehindFaults();
        longBooks();
        fault();
        about();
        name();
        team();
        lane();
        Due.close("calls", "I", "1", "2", "3", "4", "5", "6", "7", "8", "9");
    }

    // ---- the object

    private static void calls() {
        Due.says("calls", "An object is used for at most 512 calls");
        BatonZones z = new BatonZones();
        String text = Due.filled(TEAMS + "act drop a 5 6;rule r drop when size=6;", 80);
        for (int i = 0; i < 80; i += 20) {
            int[] n = new int[5];
            for (int j = 0; j < 20; j++) {
                n[j / 4] = n[j / 4] << 8 | text.charAt(i + j);
            }
            z.feed(n[0], n[1], n[2], n[3], n[4]);
        }
        Due.is(z.book(), 4);
        int last = 0;
        for (int call = 6; call < 512; call++) {
            last = z.waive(0);
        }
        // 506 times, so not waived
        Due.is(last, 0);
        Due.is(z.who(0), 1);
    }

    // ---- I: the text

    private static void fullTexts() {
        Due.says("I", "A BOOK is a TEXT of 700 bytes at most");
        Due.good(Due.filled(TEAMS + "team c 3", 699) + ";", 3);
        Due.good(Due.filled(TEAMS, 700), 2);
        Due.good(" ".repeat(700 - TEAMS.length()) + TEAMS, 2);
        Due.fault(2, 700, Due.filled(TEAMS + "team c 3", 700));
        Due.fault(2, 699, Due.filled(TEAMS + "team c 3;", 699) + ")");
        String longest = WHEN + "1=1";
        while (longest.length() + 6 < 700) {
            longest += "or 1=1";
        }
        longest += " ".repeat(699 - longest.length()) + ";";
        Due.good(longest, 3);
        Due.is(Due.book(longest).rule(0, 1), 1 + (699 - WHEN.length() - 3) / 6);
        // as many terms as a text can have: 1=1+1+1.. to its end
        String terms = TEAMS + "act drop a 1 1;rule r drop when 0=";
        int ones = (699 - terms.length() - 3) / 2;
        BatonZones most = Due.book(Due.filled(terms + ones + "-1".repeat(ones), 699) + ";");
        Due.are(Due.of(ones, most.about(8), most.rule(0, 1), most.holds(0, 0, 0), most.why(0, 0, 0, -1), most.why(0, 0, 0, 0)), 313, 1, 1, 1, 1, 0);
        Due.says("I", "a TEXT that is empty");
        Due.fault(2, 0, "");
        Due.fault(2, 1, " ");
        Due.fault(2, 700, "\n".repeat(700));
    }

    private static void trackNumbers() {
        Due.says("I", "track: LEGS (2 .. 6)");
        Due.number("track ", 2, 6, " 50 0 0 0;");
        Due.says("I", "LENGTH of a leg in metres (50 .. 400)");
        Due.number("track 2 ", 50, 400, " 0 0 0;");
        Due.says("I", "BEFORE (0 .. 20)");
        Due.number("track 2 50 ", 0, 20, " 0 0;");
        Due.says("I", "AFTER (0 .. 20)");
        Due.number("track 2 50 0 ", 0, 20, " 0;");
        Due.says("I", "CUT (0 .. LENGTH)");
        Due.number("track 2 50 0 0 ", 0, 50, ";");
        Due.number("track 2 123 0 0 ", 0, 123, ";");
        Due.number("track 6 400 20 20 ", 0, 400, ";");
        Due.says("I", "track N N N N N ; and then { LINE ; }");
        Due.good("track 2 50 0 0 0;", 0);
        Due.fault(2, "track 2 50 0 0 ^;");
        Due.fault(2, "track 2 50 0 0 0 ^0;");
        Due.fault(2, "^team a 1;track 2 50 0 0 0;");
        Due.fault(2, "track 2 50 0 0 0;^track 2 50 0 0 0;");
        Due.fault(2, "track 2 50 0 0 0;^;");
        Due.fault(2, "track 2 50 0 0 ^-0;");
    }

    private static void lineNumbers() {
        Due.says("I", "team: LANE 1 .. 9");
        Due.number(T + "team a ", 1, 9, ";");
        Due.says("I", "runs: TENTHS (20 .. 999)");
        Due.number(TEAMS + "runs a ", 20, 999, " 0;");
        Due.number(TEAMS + "runs a 20 0;runs a ", 20, 999, " 0;");
        Due.says("I", "S: N, perhaps with a - ahead; -20 .. 20");
        Due.number(TEAMS + "runs a 20 ", 0, 20, ";");
        Due.number(TEAMS + "runs a 20 -", 0, 20, ";");
        Due.number(TEAMS + "runs a 20 - \n ", 0, 20, ";");
        Due.fault(2, TEAMS + "runs a 20 -^-1;");
        Due.fault(2, TEAMS + "runs a 20 ^+1;");
        Due.fault(2, TEAMS + "runs a 20 -^;");
        Due.says("I", "of its last LEG: 0");
        Due.number(TEAMS + "runs a 20 20;runs a 20 ", 0, 0, ";");
        Due.number(TEAMS + "runs a 20 -20;runs a 20 -", 0, 0, ";");
        // the second of three is not the last of all
        Due.number("track 3 50 9 9 9;team a 1;runs a 20 20;runs a 20 ", 0, 20, ";");
        Due.number("track 3 50 9 9 9;team a 1;runs a 20 20;runs a 20 0;runs a 20 -", 0, 0, ";");
        Due.says("I", "act: the TENTH (0 .. 9999)");
        Due.number(TEAMS + "act drop a ", 0, 9999, " 0;");
        Due.number(TEAMS + "act impede a b ", 0, 9999, " 0;");
        Due.says("I", "SIZE (0 .. 99)");
        Due.number(TEAMS + "act drop a 0 ", 0, 99, ";");
        Due.number(TEAMS + "act impede a b 0 ", 0, 99, ";");
        Due.says("I", "through: 1 .. 6");
        Due.number(TEAMS + "through ", 1, 6, ";");
        Due.says("I", "within: 0 .. 99");
        Due.number(TEAMS + "within ", 0, 99, ";");
        Due.says("I", "U: N");
        Due.number(WHEN, 0, 9999, "=1;");
        Due.number(WHEN + "1=", 0, 9999, ";");
        Due.number(WHEN + "1=1 excuse {", 0, 9999, "}=1;");
    }

    private static void lineForms() {
        Due.says("I", "act KIND NAME [ NAME ] N N: for impede alone an OTHER TEAM ([ ] once or not)");
        for (String kind : new String[] {"drop", "lane", "cut"}) {
            Due.good(TEAMS + "act " + kind + " a 1 1;", 3);
            Due.fault(2, TEAMS + "act " + kind + " a ^b 1 1;");
        }
        Due.good(TEAMS + "act impede a b 1 1;", 3);
        Due.fault(2, TEAMS + "act impede a ^1 1;");
        Due.fault(2, TEAMS + "act impede a b ^b 1 1;");
        Due.says("I", "act: KIND drop, lane, cut, impede; rule: of a KIND of these, or box");
        Due.fault(2, TEAMS + "act ^box a 1 1;");
        for (String kind : new String[] {"drop", "lane", "cut", "impede", "box"}) {
            Due.good(TEAMS + "rule r " + kind + " when 1=1;", 3);
        }
        Due.fault(2, TEAMS + "rule r ^size when 1=1;");
        Due.says("I", "rule NAME KIND when T [ excuse T ]");
        Due.good(WHEN + "1=1 excuse 1=1;", 3);
        Due.fault(2, WHEN + "1=1 excuse 1=1 ^excuse 1=1;");
        Due.fault(2, WHEN + "1=1 excuse ^;");
        Due.fault(2, WHEN + "^;");
        Due.fault(2, WHEN + "^excuse 1=1;");
        Due.says("I", "A: B { and B }, A { or A }, E SIGN E");
        Due.fault(2, WHEN + "1=1 and ^;");
        Due.fault(2, WHEN + "1=1 or ^and 1=1;");
        Due.fault(2, WHEN + "1=1^=1;");
        Due.fault(2, WHEN + "1^;");
        Due.fault(2, WHEN + "1 + ^=1;");
        Due.fault(2, WHEN + "{1^=1}=1;");
        Due.fault(2, WHEN + "(1^)=1;");
        Due.fault(2, WHEN + "{^}=1;");
        Due.fault(2, WHEN + "(^);");
        Due.says("I", "B: ( T ), U: { E }: none is closed that is not open");
        for (String ahead : new String[] {"1=1", "not 1=1", "not not 1=1", "(1=1)", "not (1=1)", "not (not 1=1)", "{1}={1}", "1=1 and not 1=1 or (1=1)"}) {
            Due.good(WHEN + ahead + ";", 3);
            Due.fault(2, WHEN + ahead + "^);");
            Due.fault(2, WHEN + ahead + "^};");
            Due.fault(2, WHEN + "(" + ahead + "^};");
            Due.fault(2, WHEN + "(" + ahead + ")^);");
            Due.fault(2, WHEN + "(" + ahead + "^;");
            Due.fault(2, WHEN + "(" + ahead + " ^excuse 1=1;");
            Due.fault(2, WHEN + "1=1 excuse " + ahead + "^);");
        }
    }

    /** As many lines as there can be: 6 teams, 36 legs, 12 acts, through, within. */
    private static String manyLinesText() {
        StringBuilder text = new StringBuilder("track 6 50 0 0 0;");
        for (int t = 0; t < 6; t++) {
            text.append("team ").append((char) ('a' + t)).append(' ').append(9 - t).append(';');
        }
        for (int leg = 1; leg <= 6; leg++) {
            for (int t = 0; t < 6; t++) {
                text.append("runs ").append((char) ('a' + t)).append(' ').append(90 + leg).append(" 0;");
            }
        }
        for (int act = 0; act < 12; act++) {
            text.append("act cut ").append((char) ('a' + act % 6)).append(" 1 1;");
        }
        return text + "through 6;within 9;";
    }

    private static void manyLines() {
        Due.says("I", "the others as often as one likes");
        String text = manyLinesText();
        Due.good(Due.filled(text, 700), 56);
        Due.says("I", "TEAMS, ACTS, RULES are numbered as they come, from 0 on");
        BatonZones z = Due.book(text);
        Due.all(-1, 6, t -> z.name(0, t, 0), -1, 1, 2, 3, 4, 5, 6, -1);
        Due.all(0, 12, a -> z.act(a, 1), 0, 1, 2, 3, 4, 5, 0, 1, 2, 3, 4, 5, 0);
        Due.are(Due.of(z.about(5), z.about(6), z.about(7), z.team(5, 1), z.team(5, 2), z.team(5, 3), z.leg(5, 6, 0)), 6, 42, 12, 6, 561, 1, 96);
        // a line of one sort between those of another
        BatonZones mixed = Due.book("track 2 50 0 0 0;rule z drop when 1=1;team y 1;act lane y 1 1;rule x box when 1=1;team w 2;act cut w 1 1;");
        Due.are(Due.of(mixed.name(1, 0, 0), mixed.name(1, 1, 0), mixed.name(0, 0, 0), mixed.name(0, 1, 0), mixed.act(0, 0), mixed.act(1, 0)),
            26, 24, 25, 23, 1, 2);
        Due.says("I", "through (2 without), within (5 without)");
        Due.are(Due.of(mixed.about(9), mixed.about(10)), 2, 5);
        Due.are(Due.of(z.about(9), z.about(10)), 6, 9);
        BatonZones least = Due.book(T + "within 0;through 1;");
        Due.are(Due.of(least.about(9), least.about(10)), 1, 0);
    }

    // ---- I: tokens

    private static void tokenLengths() {
        Due.says("I", "a WORD of 9 letters and more (at its first byte)");
        Due.good(T + "team abcdefgh 1;", 1);
        Due.fault(1, T + "team ^abcdefghi 1;");
        Due.fault(1, T + "team ^" + "z".repeat(100) + " 1;");
        Due.fault(1, T + "^withinnnn 1;");
        Due.fault(1, "^" + "t".repeat(700));
        Due.fault(1, WHEN + "1=1 ^excuseexc 1=1;");
        // of 8 letters it is not like one of 9 that begins so
        Due.good(T + "team abcdefgh 1;runs abcdefgh 20 0;", 2);
        Due.fault(1, T + "team abcdefgh 1;runs ^abcdefghi 20 0;");
        Due.says("I", "a NUMBER of 5 digits and more (at its first byte)");
        Due.good("track 0002 0050 0000 0000 0000;", 0);
        Due.fault(1, "track ^00002 50 0 0 0;");
        Due.fault(1, "track 2 50 0 0 ^00000;");
        Due.fault(1, TEAMS + "act drop a ^10000 1;");
        Due.fault(1, TEAMS + "act drop a ^" + "9".repeat(100) + " 1;");
        // 2^32 and 1, 2^64 and 1: sums that go around come to a number that could stand there
        Due.fault(1, T + "team a ^4294967297;");
        Due.fault(1, T + "team a ^18446744073709551617;");
        Due.says("I", "Blanks (32, 10) part them, or nothing");
        Due.good("track2 50 0 0 0;team a1;runs a20-5;act drop a1 1;rule r drop when(1=1)and not{1}=size excuse 1=1;through1;within1;", 6);
        Due.good("\n track\n2  50 \n 0 0 0\n;\n\n", 0);
        Due.fault(4, "track ^25 0 0 0;");
        Due.fault(2, T + "^teama 1;");
        Due.fault(2, T + "^te\nam a 1;");
    }

    /** The test of one byte: where no line begins, and behind a name. */
    private static void tokenBytes() {
        Due.says("I", "No such TOKEN: another byte");
        for (int b = 0; b < 256; b++) {
            String sign = "" + (char) b;
            boolean blank = b == 32 || b == 10;
            boolean letter = b >= 'a' && b <= 'z';
            boolean digit = b >= '0' && b <= '9';
            boolean token = letter || digit || ";+-*(){}<>=".contains(sign);
            String line = T + sign;
            String lane = T + "team x" + sign + "1;";
            if (blank) {
                Due.good(line, 0);
                Due.good(lane, 1);
            } else {
                Due.fault(token ? 2 : 1, T.length(), line);
                if (letter || b == '0') {
                    Due.good(lane, 1);
                } else {
                    Due.fault(digit ? 4 : token ? 2 : 1, T.length() + 6, lane);
                }
            }
        }
    }

    private static void names() {
        Due.says("I", "NAME: a WORD that is none of track, team, runs .. not, FACTS");
        for (String word : new String[] {"track", "team", "runs", "act", "rule", "through", "within", "drop", "lane", "cut", "impede", "box",
            "when", "excuse", "and", "or", "not", "tenth", "size", "leg", "place", "other", "ahead", "again", "forced", "rank"}) {
            Due.fault(2, T + "team ^" + word + " 1;");
            Due.fault(2, T + "rule ^" + word + " box when 1=1;");
            Due.fault(2, TEAMS + "runs ^" + word + " 20 0;");
            Due.fault(2, TEAMS + "act drop ^" + word + " 1 1;");
            Due.fault(2, TEAMS + "act impede a ^" + word + " 1 1;");
            // a letter less, a letter more
            String less = word.substring(0, word.length() - 1);
            Due.good(T + "team " + word + "x 1;team " + less + " 2;", 2);
            Due.good(T + "team x" + word + " 1;rule " + less + " box when 1=1;", 2);
        }
        Due.says("I", "NAME: a WORD (a .. z)");
        Due.good(T + "team a 1;team z 2;team zzzzzzzz 3;team aaaaaaaa 4;", 4);
        Due.fault(2, T + "team ^1 1;");
        Due.fault(2, T + "team ^; 1;");
        // names that are like each other but for the last letter, or for the length, are others
        Due.good(T + "team aaaaaaaa 1;team aaaaaaab 2;team aaaaaaa 3;team baaaaaaa 4;", 4);
    }

    // ---- I: faults

    private static void cutTexts() {
        Due.says("I", "FAULTS, the first by its place (from 0; the end: the length)");
        String[] tokens = ALL.split(" ");
        StringBuilder text = new StringBuilder();
        int lines = -1;
        Due.good(ALL, 10);
        for (String token : tokens) {
            text.append(token);
            if (token.equals(";")) {
                lines++;
                Due.good(text.toString(), lines);
                Due.good(text + " \n", lines);
            } else {
                Due.fault(2, text.length(), text.toString());
                Due.fault(2, text.length() + 2, text + " \n");
            }
            text.append(' ');
        }
    }

    private static void spoiledTexts() {
        Due.says("I", "FAULTS: 1 no such TOKEN; 2 what can't stand there");
        String[] tokens = ALL.split(" ");
        for (int i = 0; i <= tokens.length; i++) {
            StringBuilder ahead = new StringBuilder();
            StringBuilder behind = new StringBuilder();
            for (int j = 0; j < tokens.length; j++) {
                (j < i ? ahead : behind).append(tokens[j]).append(' ');
            }
            for (String bad : new String[] {"A", "abcdefghi", "12345", "\0", "\u00ff"}) {
                Due.fault(1, ahead.length(), ahead + bad + " " + behind);
            }
            // what can't stand anywhere in it
            for (String bad : new String[] {"}", "when when", "track track"}) {
                boolean mayStand = i < tokens.length && tokens[i].equals(bad.substring(0, bad.length() / 2));
                Due.fault(2, ahead.length() + (mayStand ? bad.length() / 2 + 1 : 0), ahead + bad + " " + behind);
            }
        }
    }

    private static void endedTooSoon() {
        Due.says("I", "FAULTS: 2 what can't stand there: a ; ahead of the end of a LINE");
        String[] tokens = ALL.split(" ");
        StringBuilder ahead = new StringBuilder();
        int lines = -1;
        for (String token : tokens) {
            if (token.equals(";") || token.equals("and") || token.equals("excuse")) {
                lines += token.equals(";") ? 1 : 0;
                Due.good(ahead + ";", token.equals(";") ? lines : lines + 1);
            } else {
                Due.fault(2, ahead.length(), ahead + ";");
            }
            ahead.append(token).append(' ');
        }
    }

    private static void firstFaults() {
        Due.says("I", "the first by its place");
        // one behind another, each first once
        Due.fault(1, T + "^A;team 1;team a 1;team a 10;");
        Due.fault(2, T + "team ^1;A;team a 10;");
        Due.fault(3, T + "team a 1;team ^a 10;");
        Due.fault(4, T + "team a ^10;team a 1;A");
        Due.fault(6, T + "within 1;^within 100;A");
        Due.fault(7, WHEN + "((((((^((A");
        Due.fault(3, TEAMS + "act impede a ^a 10000 100;");
        Due.fault(4, TEAMS + "runs a ^1000 21;");
        Due.fault(4, TEAMS + "runs a 999 ^21;runs a 19");
        Due.fault(3, TEAMS + "rule ^a a when");
        Due.says("I", "at one place the least");
        Due.fault(1, TEAMS + "runs ^abcdefghi 20 0;");
        Due.fault(1, TEAMS + "runs a ^00019 0;");
        Due.fault(1, WHEN + "((((((^[");
        Due.fault(2, WHEN + "((((((1^(");
        Due.fault(2, WHEN + "((((((1=1^not");
        Due.fault(2, WHEN + "{{{{{{1^{");
        Due.fault(2, WHEN + "{{{{{{^(");
        Due.fault(2, WHEN + "1=^not");
        Due.fault(2, WHEN + "not not not not not not 1=^(");
        Due.fault(5, sixTeams() + "^team a 1;");
        Due.fault(4, T + "team a 1;team b ^1;");
        // a team that has all its legs is one too many at its name alone
        String full = TEAMS + "runs a 20 0;runs a 20 0;";
        Due.fault(2, full + "runs ^20 0;");
        Due.fault(2, full + "runs ^team 20 0;");
        Due.fault(1, full + "runs ^A 20 0;");
        Due.fault(3, full + "runs ^c 20 0;");
    }

    private static void nameFaults() {
        Due.says("I", "3 a NAME that a TEAM, a RULE has (team, rule)");
        String four = T + "team aa 1;team bb 2;rule cc box when 1=1;rule dd drop when 1=1;";
        for (String name : new String[] {"aa", "bb", "cc", "dd"}) {
            Due.fault(3, four + "team ^" + name + " 3;");
            Due.fault(3, four + "rule ^" + name + " lane when 1=1;");
        }
        Due.good(four + "team a 3;team b 4;rule c box when 1=1;rule d box when 1=1;", 8);
        Due.says("I", "one that no TEAM has (runs, act)");
        for (String name : new String[] {"cc", "dd", "a", "aaa", "ab", "z"}) {
            Due.fault(3, four + "runs ^" + name + " 20 0;");
            Due.fault(3, four + "act drop ^" + name + " 1 1;");
            Due.fault(3, four + "act impede ^" + name + " aa 1 1;");
            Due.fault(3, four + "act impede aa ^" + name + " 1 1;");
        }
        // told behind it is too late
        Due.fault(3, T + "runs ^a 20 0;team a 1;");
        Due.fault(3, T + "team a 1;act impede a ^b 1 1;team b 2;");
        // a team of the book told before is none of this one
        Due.fault(3, T + "runs ^q 20 0;");
        Due.good(T + "team q 7;", 1);
        Due.says("I", "the OTHER that is the TEAM (act)");
        Due.fault(3, four + "act impede aa ^aa 1 1;");
        Due.fault(3, four + "act impede bb ^bb 1 1;");
        Due.good(four + "act impede bb aa 1 1;", 5);
    }

    private static void numberFaults() {
        Due.says("I", "4 a LANE that another TEAM has, too; LANE no other one's");
        for (int lane = 1; lane <= 9; lane++) {
            Due.fault(4, T + "team a " + lane + ";team b ^" + lane + ";");
            Due.fault(4, T + "team c " + (lane % 9 + 1) + ";team a " + lane + ";team b ^000" + lane + ";");
        }
        Due.good(T + "team a 9;team b 1;team c 8;team d 2;team e 7;team f 3;", 6);
        // a lane of the book told before is free
        Due.good(T + "team a 7;", 1);
    }

    private static String sixTeams() {
        return T + "team a 1;team b 2;team c 3;team d 4;team e 5;team f 6;";
    }

    private static void tooMany() {
        Due.says("I", "team: 6 at most; 5 one too many (a TEAM at that WORD)");
        Due.good(sixTeams(), 6);
        Due.fault(5, sixTeams() + "^team g 7;");
        Due.fault(5, sixTeams() + "act drop a 1 1;runs f 20 0;^team");
        Due.says("I", "act: 12 at most; 5 one too many (an ACT at that WORD)");
        String twelve = TEAMS + "act drop a 1 1;act impede a b 2 2;act cut b 3 3;".repeat(4);
        Due.good(twelve, 14);
        Due.fault(5, twelve + "^act lane a 1 1;");
        Due.fault(5, twelve + "runs a 20 0;^act");
        Due.says("I", "rule: 8 at most; 5 one too many (a RULE at that WORD)");
        StringBuilder eight = new StringBuilder(TEAMS);
        for (char c = 'k'; c <= 'r'; c++) {
            eight.append("rule ").append(c).append(" drop when 1=1 excuse 1=1;");
        }
        Due.good(eight.toString(), 10);
        Due.fault(5, eight + "^rule s drop when 1=1;");
        Due.fault(5, eight + "within 1;^rule");
        BatonZones z = Due.book(eight.toString());
        Due.are(Due.of(z.about(8), z.name(1, 7, 0), z.name(1, 8, 0), z.rule(7, 2), z.rule(8, 2)), 8, 18, -1, 1, Due.NO);
        Due.says("I", "5 a LEG of a TEAM at its NAME");
        for (int legs = 2; legs <= 6; legs++) {
            String full = "track " + legs + " 50 9 9 9;team a 1;team b 2;" + "runs a 20 0;".repeat(legs);
            Due.good(full, legs + 2);
            Due.fault(5, full + "runs ^a 20 0;");
            Due.fault(5, full + "runs ^a");
            Due.good(full + "runs b 20 0;", legs + 3);
        }
    }

    private static void twice() {
        Due.says("I", "through, within: the last two once at most; 6 again (at that WORD)");
        Due.good(TEAMS + "through 1;within 1;", 4);
        Due.good(TEAMS + "within 1;through 1;", 4);
        Due.fault(6, TEAMS + "through 2;within 1;^through 2;");
        Due.fault(6, TEAMS + "within 5;through 1;^within 5;");
        Due.fault(6, TEAMS + "through 1;^through");
        Due.fault(6, TEAMS + "within 1;^within");
        // in the next text they are told for the first time
        BatonZones z = Due.book(T + "through 3;within 3;");
        Due.is(Due.told(z, T + "through 4;within 4;"), 2);
        Due.is(Due.told(z, T + "through 5;through 5;"), -1);
        Due.is(Due.told(z, T + "through 6;"), 1);
        Due.are(Due.of(z.about(9), z.about(10)), 6, 5);
    }

    private static void open() {
        Due.says("I", "7 the 7th of ( { not that is open at one time, at it");
        for (int rounds = 0; rounds <= 6; rounds++) {
            for (int nots = 0; rounds + nots <= 6; nots++) {
                int curlies = 6 - rounds - nots;
                String ahead = WHEN + "(".repeat(rounds) + "not ".repeat(nots);
                String close = ")".repeat(rounds) + ";";
                Due.good(ahead + "{".repeat(curlies) + "1" + "}".repeat(curlies) + "=1" + close, 3);
                Due.good(ahead + "1<2*" + "{".repeat(curlies) + "1" + "}".repeat(curlies) + close, 3);
                Due.fault(7, ahead + "{".repeat(curlies) + "^{1}" + "}".repeat(curlies) + "=1" + close);
                Due.fault(7, ahead + "1=1+" + "{".repeat(curlies) + "^{1}" + "}".repeat(curlies) + close);
                if (curlies == 0) {
                    Due.fault(7, ahead + "^(1=1)" + close);
                    Due.fault(7, ahead + "^not 1=1" + close);
                }
            }
        }
        Due.fault(7, WHEN + "not (not (not (^(1=1))));");
        Due.fault(7, TEAMS + "rule r drop when 1=1 excuse ((((((^(1=1)))))));");
        Due.fault(7, WHEN + "1=1 or 1=1 and ((((((^not 1=1))))));");
    }

    private static void closed() {
        Due.says("I", "that is open at one time (a not till its B ends)");
        String six = "not not not not not not 1=1";
        Due.good(WHEN + six + " and " + six + " or " + six + ";", 3);
        Due.good(WHEN + six + " and ((((((1=1))))));", 3);
        Due.good(WHEN + "((((((1=1)))))) or " + six + ";", 3);
        Due.good(WHEN + "{{{{{{1}}}}}}={{{{{{1}}}}}}+{{{{{{1}}}}}} and {{{{{{1}}}}}}<1;", 3);
        // behind ) of a not that it ends, but not within
        Due.good(WHEN + "(not (not (1=1)) and ((((1=1)))) and not (((1=1 and (1=1)))));", 3);
        Due.fault(7, WHEN + "not (1=1 and not (1=1 or not (^not 1=1)));");
        Due.good(WHEN + "not (1=1 and not (1=1 or not (1=1) and not (1=1)));", 3);
        // open till both sides of the sign have been
        Due.fault(7, WHEN + "not not not not not not 1=^{1};");
        Due.fault(7, WHEN + "not not not not not not ^{1}=1;");
        Due.good(WHEN + "not not not not not {1}={1} and {1}={1};", 3);
        Due.good(WHEN + "((((((1=1)))))) excuse ((((((1=1))))));rule s drop when ((((((1=1))))));", 4);
        String many = WHEN + "1=1";
        while (many.length() + 13 < 700) {
            many += "and not(1={1})";
        }
        Due.good(many.substring(0, many.length() - 14) + ";", 3);
    }

    // ---- I: comparisons

    private static int holds(String condition) {
        return Due.book("track 2 50 0 0 0;team a 1;act drop a 40 6;rule r drop when " + condition + ";").holds(0, 0, 0);
    }

    private static void comparisonsBeyond() {
        // 2147483647; 2^31; 2^16
        String most = "9999*9999*21+9999*4790+8416";
        String beyond = "4096*16*8192*4";
        String half = "{4096*16}";
        Due.says("I", "A COMPARISON one of whose numbers is beyond 32 bits does not hold: the greatest, one more");
        Due.are(Due.of(holds(most + ">0"), holds("0<" + most), holds(most + "=" + most), holds(most + ">9999"), holds(most + "+0>0")), 1, 1, 1, 1, 1);
        Due.are(Due.of(holds(most + "+1>0"), holds("0<" + most + "+1"), holds(most + "+1=" + most + "+1"), holds(most + "+1<0"), holds("0=0*{" + most + "+1}")),
            0, 0, 0, 0, 0);
        Due.are(Due.of(holds("1+{" + most + "}>0"), holds("1+{" + most + "}<0"), holds(beyond + ">0"), holds(beyond + "<0"), holds("0>" + beyond)), 0, 0, 0, 0, 0);
        Due.says("I", "A COMPARISON one of whose numbers is beyond 32 bits does not hold: the least, one less");
        String least = "0-{" + most + "}-1";
        Due.are(Due.of(holds(least + "<0"), holds(least + "=" + least), holds(least + "+1=0-{" + most + "}"), holds("0>" + least),
            holds("{0-" + half + "}*{4096*8}=" + least)), 1, 1, 1, 1, 1);
        Due.are(Due.of(holds(least + "-1<0"), holds(least + "-1>0"), holds("0>" + least + "-1"), holds(least + "-1=" + least + "-1"),
            holds("{" + least + "}*{0-1}>0"), holds("{" + least + "}*{0-1}<0"), holds("0-{" + least + "}>0"), holds("0-{" + least + "}<0")),
            0, 0, 0, 0, 0, 0, 0, 0);
        Due.says("I", "or what it comes to on the way");
        Due.are(Due.of(holds(most + "+1-1=" + most), holds(most + "+1-1>0"), holds(most + "-1+1=" + most), holds(least + "-1+1<0"), holds(least + "+1-1=" + least),
            holds(beyond + "*0=0"), holds("0*{" + beyond + "}=0"), holds("0*" + beyond + "=0"), holds(beyond + "-" + beyond + "=0"),
            holds("{" + beyond + "-9999}<{" + beyond + "}")), 0, 0, 1, 0, 1, 0, 0, 1, 0, 0);
        Due.says("I", "beyond 32 bits: sums that go around 32 bits, 64 bits");
        Due.are(Due.of(holds(half + "*" + half + "=0"), holds(half + "*" + half + "<1"), holds(half + "*" + half + "+5=5"),
            holds(half + "*" + half + "*" + half + "*" + half + "=0"), holds(half + "*" + half + "*" + half + "*{4096*8}<0"),
            holds("{" + half + "*" + half + "}*{" + half + "*" + half + "}=0"), holds("{" + half + "*" + half + "*" + half + "*{4096*8}}-1>0"),
            holds("9999*9999*9999>0"), holds("9999*9999*9999<0"), holds("9999*9999*9999*9999*9999*9999*9999>0"),
            holds("9999*9999*9999*9999*9999*9999*9999<0")), 0, 0, 0, 0, 0, 0, 0, 0, 0, 0, 0);
        Due.says("I", "does not hold: not of it does, and others beside it are as they are");
        Due.are(Due.of(holds("not " + beyond + ">0"), holds("not not " + beyond + ">0"), holds(beyond + ">0 or 1=1"), holds("1=1 or " + beyond + ">0"),
            holds("1=1 and " + beyond + ">0"), holds("not " + beyond + ">0 and not " + beyond + "<0 and not " + beyond + "=" + beyond)), 1, 0, 1, 1, 0, 1);
        Due.says("I", "Both sides of and, or are worked");
        Due.are(Due.of(holds("1=2 and " + beyond + ">0 or 1=1"), holds("1=1 or " + beyond + ">0 and 1=1"), holds("(1=2 and 1=1) or 1=1")), 1, 1, 1);
    }

    private static void comparisonNumbers() {
        Due.says("I", "SIGN < > or =");
        Due.are(Due.of(holds("5<6"), holds("6<6"), holds("7<6"), holds("5>6"), holds("6>6"), holds("7>6"), holds("5=6"), holds("6=6"), holds("7=6")),
            1, 0, 0, 0, 0, 1, 0, 1, 0);
        Due.are(Due.of(holds("size<7"), holds("size<6"), holds("size>5"), holds("size>6"), holds("size=6"), holds("0-1<0"), holds("0-1>0")), 1, 0, 1, 0, 1, 1, 0);
        Due.says("I", "A: B { and B }, T: A { or A }; E: M { + M or - M }; M: U { * U }");
        Due.are(Due.of(holds("1=1 or 1=1 and 1=2"), holds("1=2 and 1=1 or 1=1"), holds("(1=1 or 1=1) and 1=2"), holds("not 1=2 or 1=1"),
            holds("not 1=1 or 1=1"), holds("not 1=1 and 1=2"), holds("not (1=1 and 1=2)")), 1, 1, 0, 1, 1, 0, 1);
        Due.are(Due.of(holds("9-3-2=4"), holds("9-{3-2}=8"), holds("9-3+2=8"), holds("2+3*4=14"), holds("{2+3}*4=20"), holds("2*3-4*5=0-14"),
            holds("2*{3-4}*5=0-10")), 1, 1, 1, 1, 1, 1, 1);
        Due.says("I", "COMPARISONS of a T are numbered as they stand, from 0 on");
        BatonZones z = Due.book("track 2 50 0 0 0;team a 1;act drop a 40 6;rule r drop when 1=2 or (1=2 and 1=1 or not 1=1) or 1=1 excuse 2=3 or 1=1;");
        Due.are(Due.of(z.rule(0, 1), z.rule(0, 2), z.why(0, 0, 0, -1), z.why(0, 0, 0, 0), z.why(0, 0, 0, 1), z.why(0, 1, 0, -1), z.why(0, 1, 0, 0)),
            5, 2, 1, 4, -1, 1, 1);
    }

    // ---- 1

    private static void newObject() {
        Due.says(1, "A new object: Nothing is told: no LEGS, no TEAMS");
        BatonZones z = new BatonZones();
        Due.all(-1, 13, z::about, -1, 0, 0, 0, 0, 0, 0, 0, 0, 0, 2, 5, 0, 0, -1);
        Due.are(Due.of(z.fault(0), z.fault(1), z.crowd(0, 0), z.crowd(9999, Due.MAX), z.again()), 0, -1, 0, 0, 0);
        Due.all(0, 4, z::who, 0, 0, 0, 0, 0);
        for (int n = 0; n <= 1; n++) {
            Due.are(Due.of(z.name(0, n, 0), z.name(1, n, 0), z.team(n, 0), z.lane(n), z.place(n, 0), z.comes(n, 0), z.order(0, n), z.boldest(n),
                z.changes(n, 1 - n), z.cutIn(n), z.behind(n, 1), z.fastest(n, 0), z.leg(n, 1, 0), z.inBox(n, 0), z.struck(n, 0), z.rank(n), z.result(n),
                z.would(n), z.fairRank(n), z.margin(n), z.impeders(n), z.winner(n), z.stays(n, 0), z.appeal(n, 0, 1), z.waive(n),
                z.measure(n, 1, 20, 0), z.undo()), new int[] {-1, -1, -1, -1, -1, -1, -1, -1, -1, -1, -1, -1, -1, -1, -1, -1, -1, -1, -1, -1, -1, -1,
                -1, -1, -1, -1, -1});
            Due.are(Due.of(z.act(n, 0), z.fact(n, 0), z.rule(n, 0), z.holds(n, 0, 0), z.why(n, 0, 0, -1), z.struckBy(n, 0), z.clean(n, 0), z.free(n, 0)),
                Due.NO, Due.NO, Due.NO, Due.NO, Due.NO, Due.NO, Due.NO, Due.NO);
        }
        Due.says(1, "two objects have nothing of one another");
        BatonZones told = Due.book(TEAMS);
        Due.are(Due.of(told.about(5), z.about(5), z.about(12), new BatonZones().about(5)), 2, 0, 0, 0);
        Due.says("1", "NONE = -1");
        Due.is(BatonZones.NONE, -1);
    }

    // ---- 2

    private static void feed() {
        Due.says(2, "Twenty bytes come behind those on the TAPE, of each number the highest first");
        BatonZones z = new BatonZones();
        // "track 2 50 0 0 0;tea" "m abcdefgh 1;       "
        Due.is(z.feed(0x74726163, 0x6b203220, 0x35302030, 0x20302030, 0x3b746561), 20);
        Due.is(z.feed(0x6d206162, 0x63646566, 0x67682031, 0x3b202020, 0x20202020), 40);
        Due.is(z.book(), 1);
        Due.all(0, 8, i -> z.name(0, 0, i), 1, 2, 3, 4, 5, 6, 7, 8, 0);
        // the only byte that is no blank stands at each of the twenty places once
        for (int place = 0; place < 20; place++) {
            int[] n = {0x20202020, 0x20202020, 0x20202020, 0x20202020, 0x20202020};
            n[place / 4] += 0xdf << 24 - place % 4 * 8;
            BatonZones one = new BatonZones();
            Due.are(Due.of(one.feed(n[0], n[1], n[2], n[3], n[4]), one.book(), one.fault(0), one.fault(1)), 20, -1, 1, place);
        }
        Due.says(2, "how many there are; NONE, and nothing comes, if there would be more than 700");
        for (int n = 1; n <= 35; n++) {
            Due.is(z.feed(Due.MIN, Due.MAX, -1, 0, n), 20 * n);
        }
        Due.are(Due.of(z.feed(1, 2, 3, 4, 5), z.about(12), z.feed(0, 0, 0, 0, 0), z.about(12)), -1, 700, -1, 700);
        for (int left = 699; left > 680; left--) {
            Due.are(Due.of(z.end(left), z.feed(0, 0, 0, 0, 0), z.about(12)), left, -1, left);
        }
        Due.are(Due.of(z.end(680), z.feed(0, 0, 0, 0, 0), z.about(12), z.end(0), z.feed(0, 0, 0, 0, 0)), 680, 700, 700, 0, 20);
        Due.says(2, "nothing comes: the bytes on the tape are as they were");
        BatonZones full = new BatonZones();
        Due.feed(full, Due.filled(TEAMS, 681));
        Due.are(Due.of(full.feed(-1, -1, -1, -1, -1), full.book(), full.about(5), full.feed(0, 0, 0, 0, 0)), -1, 2, 2, 20);
        Due.says(2, "come behind those on the TAPE: the book told before is as it was");
        Due.are(Due.of(full.about(5), full.about(12), full.fault(0)), 2, 20, 0);
    }

    // ---- 3

    private static void end() {
        Due.says(3, "The TAPE has its first n bytes: n");
        BatonZones z = new BatonZones();
        Due.feed(z, TEAMS);
        int bytes = TEAMS.length();
        Due.are(Due.of(z.end(bytes), z.about(12), z.end(bytes - 9), z.about(12), z.book(), z.about(5)), bytes, bytes, bytes - 9, bytes - 9, 1, 1);
        Due.says(3, "NONE, doing nothing, if it has not so many");
        Due.are(Due.of(z.end(0), z.end(1), z.end(Due.MAX), z.about(12)), 0, -1, -1, 0);
        Due.feed(z, TEAMS);
        Due.are(Due.of(z.end(bytes + 1), z.about(12), z.end(701), z.end(Due.MAX), z.about(12), z.book()), -1, bytes, -1, -1, bytes, 2);
        Due.feed(z, Due.filled(TEAMS, 700));
        Due.are(Due.of(z.end(701), z.about(12), z.end(700), z.end(699), z.end(700), z.about(12)), -1, 700, 700, 699, -1, 699);
        Due.says(3, "NONE, doing nothing, if n is below 0");
        Due.are(Due.of(z.end(-1), z.about(12), z.end(Due.MIN), z.about(12), z.book()), -1, 699, -1, 699, 2);
        Due.says(3, "what was taken off does not come back");
        Due.feed(z, T + "team a 1;");
        z.end(T.length());
        Due.feed(z, "team c 3;team d 4;");
        Due.are(Due.of(z.book(), z.name(0, 0, 0), z.name(0, 1, 0)), 2, 3, 4);
        Due.says(3, "the first 0 bytes: the tape is empty");
        Due.feed(z, TEAMS);
        Due.are(Due.of(z.end(0), z.about(12), z.book(), z.fault(0), z.fault(1), z.about(5)), 0, 0, -1, 2, 0, 2);
    }

    // ---- 4

    private static void book() {
        Due.says(4, "how many LINES, track not counted");
        Due.good(T, 0);
        Due.good(T + "within 1;", 1);
        Due.good(ALL, 10);
        Due.says(4, "The TAPE (empty then) is the BOOK");
        BatonZones z = Due.book(ALL);
        Due.are(Due.of(z.about(12), z.book(), z.fault(0), z.fault(1), z.about(5)), 0, -1, 2, 0, 2);
        Due.feed(z, T);
        Due.are(Due.of(z.book(), z.about(5), z.about(8)), 0, 0, 0);
        Due.says(4, "The TAPE is the BOOK: nothing of the one before is left");
        BatonZones after = Due.book("track 3 100 10 10 50;team a 9;team b 8;team c 7;" + "runs a 20 5;runs b 30 5;".repeat(2) + "runs a 50 0;"
            + "act impede a b 10 9;act drop a 20 9;rule r impede when 1=1 excuse 1=2;rule s drop when size=9;through 1;within 99;");
        after.waive(1);
        after.measure(0, 1, 25, 5);
        String second = "track 2 60 0 0 0;team x 3;runs x 70 4;act lane x 10 9;rule q box when 1=2;";
        Due.is(Due.told(after, second), 4);
        Due.same(after, Due.book(second));
        Due.says(4, "(no APPEALS)");
        BatonZones appeals = Due.book(TEAMS + "act drop a 1 1;");
        for (int i = 0; i < 11; i++) {
            appeals.waive(0);
        }
        Due.is(appeals.about(11), 10);
        Due.is(Due.told(appeals, TEAMS + "act drop a 1 1;"), 3);
        Due.are(Due.of(appeals.about(11), appeals.undo(), appeals.act(0, 5), appeals.waive(0), appeals.about(11), appeals.undo(), appeals.undo()),
            0, -1, 0, 1, 1, 0, -1);
    }

    private static void bookFaults() {
        Due.says(4, "NONE: a FAULT (all else stays)");
        String text = "track 3 100 10 10 50;team a 9;team b 8;team c 7;runs a 20 5;runs a 25 0;runs a 30 0;runs b 30 15;act impede a b 10 9;act drop a 20 9;"
            + "rule r impede when 1=1 excuse 1=2;rule s drop when size=9;through 1;within 99;";
        String[] faulty = {"", ";", "track 2 60 1 1 1", "track 2 60 1 1 1;team a 1;team a 2;", ALL + "A", ALL + "act drop a 1 100;",
            ALL + "runs a 20 0;runs a 20 0;", ALL + "through 1;", WHEN + "(((((((1=1)))))));"};
        int[] kinds = {2, 2, 2, 3, 1, 4, 5, 6, 7};
        for (int i = 0; i < faulty.length; i++) {
            BatonZones one = Due.book(text);
            BatonZones other = Due.book(text);
            for (BatonZones z : new BatonZones[] {one, other}) {
                z.waive(1);
                z.appeal(0, 1, 77);
                z.measure(0, 1, 40, -3);
            }
            Due.is(Due.told(one, faulty[i]), -1);
            Due.are(Due.of(one.fault(0), one.about(12)), kinds[i], 0);
            Due.same(one, other);
        }
        Due.says(4, "empty then, also at a FAULT");
        BatonZones z = new BatonZones();
        Due.are(Due.of(Due.told(z, "A" + TEAMS), z.about(12), z.end(1), z.end(0)), -1, 0, -1, 0);
        Due.are(Due.of(Due.told(z, TEAMS), z.about(12), z.about(5)), 2, 0, 2);
        Due.says(4, "a FAULT ahead of any BOOK: still nothing is told");
        BatonZones none = new BatonZones();
        Due.is(Due.told(none, TEAMS + "through 3;within 3;^"), -1);
        Due.all(0, 12, none::about, 0, 0, 0, 0, 0, 0, 0, 0, 0, 2, 5, 0, 0);
        Due.same(none, new BatonZones());
    }

    private static final String[] BOOKS = {
        "track 2 50 0 0 0;",
        "track 3 100 10 10 50;team a 9;team b 8;team c 7;runs a 20 5;runs a 25 0;runs a 30 0;runs b 30 15;act impede a b 10 9;act drop a 20 9;act cut c 9 9;"
            + "rule r impede when 1=1 excuse 1=2;rule s drop when size=9 or size=8;rule t box when size>0 excuse again=0;through 1;within 99;",
        "track 2 60 0 0 0;team x 3;runs x 70 4;act lane x 10 9;rule q lane when size=9;",
        "track 3 60 1 2 3;team d 3;team e 1;team f 2;team g 9;runs d 70 4;runs e 70 -4;runs d 50 0;runs d 50 0;act drop e 10 9;act drop d 11 8;"
            + "act impede d g 12 7;rule q drop when size=9;rule p impede when rank=1 and not ahead<0 excuse 1=1;within 0;",
        "track 2 99 9 9 9;team y 1;team z 2;runs y 21 0;runs y 22 0;runs z 23 9;runs z 24 0;act cut y 1 1;act cut z 1 1;act cut z 2 2;"
            + "rule m cut when 1=1 excuse again=0;through 6;"};

    private static void booksInARow() {
        Due.says(4, "The TAPE is the BOOK (no APPEALS): of those told ahead of it nothing is left, however many there were");
        for (int first = 0; first < BOOKS.length; first++) {
            for (int second = 0; second < BOOKS.length; second++) {
                for (int third = 0; third < BOOKS.length; third++) {
                    BatonZones z = new BatonZones();
                    for (int book : new int[] {first, second, third}) {
                        for (int act = 0; act < 3; act++) {
                            z.waive(act);
                            z.appeal(act, 1, 33);
                        }
                        z.measure(0, 1, 44, 1);
                        Due.told(z, BOOKS[book]);
                    }
                    Due.same(z, Due.book(BOOKS[third]));
                }
            }
        }
        Due.says(4, "a FAULT between two books: the next one has nothing of it");
        for (int fault = 1; fault < BOOKS.length; fault++) {
            for (int next = 0; next < BOOKS.length; next++) {
                BatonZones z = Due.book(BOOKS[1]);
                z.waive(0);
                Due.is(Due.told(z, BOOKS[fault] + "A"), -1);
                Due.is(Due.told(z, BOOKS[fault] + "team"), -1);
                Due.told(z, BOOKS[next]);
                Due.same(z, Due.book(BOOKS[next]));
            }
        }
    }

    private static void booksBehindFaults() {
        Due.says(4, "a FAULT within what is open: the next one opens as many");
        String[] tokens = "not ( not ( { 1 + 2 } * 3 = { 4 } and ( 1 = 1 or not 2 = 3 ) ) )".split(" ");
        String deep = "((((((1=1)))))) and not not not not not not 1=1 or {{{{{{1}}}}}}<1 excuse 1=2 and {1+1}*2=4 or not (1=1 and not 1=2)";
        StringBuilder cut = new StringBuilder(TEAMS + "act drop a 1 1;rule r drop when");
        for (String token : tokens) {
            BatonZones z = new BatonZones();
            Due.is(Due.told(z, cut + ";"), -1);
            Due.are(Due.of(z.fault(0), z.fault(1)), 2, cut.length());
            Due.is(Due.told(z, TEAMS + "act drop a 1 1;rule r drop when " + deep + ";"), 4);
            Due.are(Due.of(z.rule(0, 1), z.rule(0, 2), z.holds(0, 0, 0), z.holds(0, 1, 0), z.why(0, 0, 0, -1), z.why(0, 1, 0, -1), z.why(0, 1, 0, 0),
                z.why(0, 1, 0, 1)), 3, 4, 1, 0, 2, 3, 0, 2);
            Due.is(Due.told(z, WHEN + "((((((1=1 and (1=1)))))));"), -1);
            Due.are(Due.of(z.fault(0), z.fault(1)), 7, WHEN.length() + 14);
            cut.append(' ').append(token);
        }
    }

    private static void longBooks() {
        Due.says(4, "The TAPE is the BOOK: texts of 700 bytes one after another");
        BatonZones z = new BatonZones();
        for (int i = 0; i < 12; i++) {
            String text = TEAMS + "act drop a 1 1;rule r drop when " + (300 + i) + "=1";
            int ones = (699 - text.length()) / 2;
            Due.is(Due.told(z, Due.filled(text + "+1".repeat(ones), 699) + ";"), 4);
            Due.are(Due.of(z.holds(0, 0, 0), z.why(0, 0, 0, -1)), 300 + i == ones + 1 ? 1 : 0, 1);
        }
    }

    // ---- 5

    private static void fault() {
        Due.says(5, "what 0: its FAULT (0: without; ahead of any, too), 1: its place (NONE likewise)");
        BatonZones z = new BatonZones();
        Due.are(Due.of(z.fault(0), z.fault(1)), 0, -1);
        Due.feed(z, "A");
        Due.are(Due.of(z.fault(0), z.fault(1)), 0, -1);
        Due.is(z.book(), -1);
        Due.are(Due.of(z.fault(0), z.fault(1)), 1, 0);
        Due.is(Due.told(z, TEAMS), 2);
        Due.are(Due.of(z.fault(0), z.fault(1)), 0, -1);
        Due.says(5, "Of the latest book()");
        Due.is(Due.told(z, TEAMS + "within 100;"), -1);
        Due.are(Due.of(z.fault(0), z.fault(1)), 4, TEAMS.length() + 7);
        Due.feed(z, TEAMS);
        z.end(5);
        z.waive(0);
        Due.are(Due.of(z.fault(0), z.fault(1)), 4, TEAMS.length() + 7);
        Due.is(z.book(), -1);
        Due.are(Due.of(z.fault(0), z.fault(1)), 2, 5);
        Due.is(Due.told(z, Due.filled(TEAMS, 699) + "A"), -1);
        Due.are(Due.of(z.fault(0), z.fault(1)), 1, 699);
        Due.says(5, "NONE for another what");
        Due.edges(0, 1, -1, z::fault);
    }

    // ---- 6

    private static void about() {
        Due.says(6, "0: LEGS .. 12: bytes on the TAPE: the least of each");
        BatonZones least = Due.book("track 2 50 0 0 0;through 1;within 0;");
        Due.all(0, 12, least::about, 2, 50, 0, 0, 0, 0, 0, 0, 0, 1, 0, 0, 0);
        Due.says(6, "0: LEGS .. 12: bytes on the TAPE: the greatest of each");
        BatonZones most = Due.book(manyLinesText().replace("track 6 50 0 0 0", "track 6 400 20 20 400"));
        for (int i = 0; i < 11; i++) {
            most.waive(i);
        }
        Due.feed(most, " ".repeat(700));
        Due.all(0, 12, most::about, 6, 400, 20, 20, 400, 6, 42, 12, 0, 6, 9, 10, 700);
        Due.says(6, "ACTS (all), of these told");
        BatonZones some = Due.book("track 3 50 0 0 0;team a 1;team b 2;runs a 20 0;runs a 20 0;runs a 20 0;runs b 20 0;act drop a 1 1;");
        Due.are(Due.of(some.about(6), some.about(7)), 4, 1);
        Due.says(6, "0 each, if no BOOK was told; 2, 5, if no BOOK was told");
        BatonZones none = new BatonZones();
        Due.feed(none, "A");
        Due.all(0, 12, none::about, 0, 0, 0, 0, 0, 0, 0, 0, 0, 2, 5, 0, 1);
        Due.says(6, "11: APPEALS that can be undone");
        Due.are(Due.of(some.about(11), some.waive(0), some.about(11), some.appeal(0, 0, 1), some.about(11), some.appeal(0, 0, 2), some.about(11), some.undo(),
            some.about(11), some.undo(), some.about(11), some.undo(), some.about(11)), 0, 1, 1, -1, 1, 1, 2, 1, 1, 0, 0, -1, 0);
        Due.says(6, "NONE for another what");
        Due.edges(0, 12, -1, most::about);
    }

    // ---- 7

    private static void name() {
        BatonZones z = Due.book(T + "team a 1;team zyxwvuts 2;rule b box when 1=1;rule lmnopqrs drop when 1=1;rule zz cut when 1=1;");
        Due.says(7, "Letter i (0 ..) of the NAME of a TEAM (kind 0), a RULE (1): 1 .. 26; 0 behind it");
        Due.all(0, 3, i -> z.name(0, 0, i), 1, 0, 0, 0);
        Due.all(0, 9, i -> z.name(0, 1, i), 26, 25, 24, 23, 22, 21, 20, 19, 0, 0);
        Due.all(0, 9, i -> z.name(1, 1, i), 12, 13, 14, 15, 16, 17, 18, 19, 0, 0);
        Due.all(0, 2, i -> z.name(1, 2, i), 26, 26, 0);
        Due.are(Due.of(z.name(0, 0, 13), z.name(0, 0, 64), z.name(0, 1, 4096), z.name(0, 0, Due.MAX)), 0, 0, 0, 0);
        Due.says(7, "NONE if there is none such");
        Due.edges(0, 1, -1, kind -> z.name(kind, 1, 0));
        Due.edges(0, 1, -1, k -> z.name(0, k, 0));
        Due.edges(0, 2, -1, k -> z.name(1, k, 0));
        Due.says(7, "i is below 0");
        Due.from(0, -1, i -> z.name(0, 1, i));
        Due.from(0, -1, i -> z.name(1, 1, i));
    }

    // ---- 8

    private static void team() {
        BatonZones z = Due.book("track 3 50 0 0 0;team a 9;team b 1;team c 5;runs a 999 0;runs a 999 0;runs a 999 0;runs b 20 0;runs b 21 0;");
        Due.says(8, "0: LANE, 1: LEGS that were told, 2: TIME (also if it is not WHOLE: of these), 3: 1 if it is WHOLE, else 0");
        Due.all(0, 3, i -> z.team(0, i), 9, 3, 2997, 1);
        Due.all(0, 3, i -> z.team(1, i), 1, 2, 41, 0);
        Due.all(0, 3, i -> z.team(2, i), 5, 0, 0, 0);
        Due.says(8, "NONE if there is none such");
        Due.edges(0, 2, -1, t -> z.team(t, 0));
        Due.says(8, "NONE for another what");
        Due.edges(0, 3, -1, i -> z.team(0, i));
    }

    // ---- 9

    private static void lane() {
        BatonZones z = Due.book(T + "team a 9;team b 1;team c 5;");
        Due.says(9, "The number of the TEAM in a LANE; NONE if there is none");
        Due.all(-2, 11, z::lane, -1, -1, -1, 1, -1, -1, -1, 2, -1, -1, -1, 0, -1, -1);
        Due.are(Due.of(z.lane(Due.MAX), z.lane(Due.MIN)), -1, -1);
        Due.is(Due.told(z, T + "team a 2;"), 1);
        Due.all(1, 9, z::lane, -1, 0, -1, -1, -1, -1, -1, -1, -1);
    }
}
