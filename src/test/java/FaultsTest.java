/** Promises 4 and 5: faults of texts, each at the sign ^ that is taken out of the text. */
public final class FaultsTest {
    private static final String T = "track 2 50 9 9 9;";
    private static final String TEAMS = T + "team a 1;team b 2;";
    private static final String R = TEAMS + "rule r drop when ";
    private static int wrong = 0;
    private static int texts = 0;

    public static void main(String[] args) {
        noTokens();
        misplaced();
        names();
        numbers();
        tooMany();
        twice();
        tooDeep();
        conditions();
        theFirst();
        good();
        System.out.println(texts + " texts, " + wrong + " wrong");
        if (wrong != 0) {
            System.exit(1);
        }
    }

    private static void fault(int due, String marked) {
        int place = marked.indexOf('^');
        check(marked.substring(0, place) + marked.substring(place + 1), due, place);
    }

    private static void check(String text, int due, int place) {
        texts++;
        BatonZones z = new BatonZones();
        for (int i = 0; i < text.length(); i += 20) {
            int[] n = new int[5];
            for (int j = 0; j < 20; j++) {
                n[j / 4] = n[j / 4] << 8 | (i + j < text.length() ? text.charAt(i + j) : 'x');
            }
            z.feed(n[0], n[1], n[2], n[3], n[4]);
        }
        int end = z.end(text.length());
        int lines = z.book();
        boolean asDue = end == text.length() && z.fault(0) == due && z.fault(1) == place && (lines == -1) == (due != 0)
            && z.about(12) == 0 && (due == 0) == (z.about(0) != 0);
        if (!asDue) {
            wrong++;
            System.out.println("fault " + z.fault(0) + " at " + z.fault(1) + " (" + lines + "), due is " + due + " at " + place + ": " + text);
        }
    }

    private static void noTokens() {
        fault(1, "^\t");
        fault(1, "^Track 2 50 0 0 0;");
        fault(1, "^trackings 2 50 0 0 0;");
        fault(1, "track ^00002 50 0 0 0;");
        fault(1, T + "^\0");
        fault(1, T + "team ^abcdefghi 1;");
        fault(1, T + "team a ^10000;");
        fault(1, T + "team ^A 1;");
        fault(1, T + "team a^\r1;");
        fault(1, T + "team a^, 1;");
        fault(1, T + "team a 1;^\u00e9");
        fault(1, T + "team a 1^\u00ff;");
        fault(1, R + "1^!=2;");
        fault(1, R + "1<^12345;");
        fault(1, R + "1<2 ^excusesss 1=1;");
        fault(1, R + "(1<2 ^];");
        // at one place the least: what is no token is not also what can't stand there
        fault(1, TEAMS + "runs a ^99999 0;");
        fault(1, TEAMS + "runs ^cccccccccccc 0;");
    }

    private static void misplaced() {
        fault(2, "^");
        fault(2, " \n ^");
        fault(2, "^team a 1;");
        fault(2, "track^");
        fault(2, "track  ^");
        fault(2, "track ^;");
        fault(2, "track 2 50 9 ^;");
        fault(2, "track 2 50 9 9 ^-9;");
        fault(2, "track 2 50 9 9 9 ^9;");
        fault(2, "track 2 50 9 9 9^");
        fault(2, "track 2 50 9 9 9 \n^");
        fault(2, T + "^;");
        fault(2, T + "^track 2 50 9 9 9;");
        fault(2, T + "^a;");
        fault(2, T + "^5;");
        fault(2, T + "^drop a 1 1;");
        fault(2, T + "team ^1 a;");
        fault(2, T + "team a ^;");
        fault(2, T + "team a ^-1;");
        fault(2, T + "team a 1 ^1;");
        fault(2, T + "team a 1^");
        for (String word : new String[] {"track", "team", "runs", "act", "rule", "through", "within", "drop", "lane", "cut", "impede", "box",
            "when", "excuse", "and", "or", "not", "tenth", "size", "leg", "place", "other", "ahead", "again", "forced", "rank"}) {
            fault(2, T + "team ^" + word + " 1;");
            fault(2, TEAMS + "runs ^" + word + " 20 0;");
            fault(2, TEAMS + "act drop ^" + word + " 1 1;");
            fault(2, TEAMS + "act impede a ^" + word + " 1 1;");
            fault(2, TEAMS + "rule ^" + word + " drop when 1=1;");
        }
        fault(2, TEAMS + "runs a ^-20 0;");
        fault(2, TEAMS + "runs a 20 ^;");
        fault(2, TEAMS + "runs a 20 -^;");
        fault(2, TEAMS + "runs a 20 -^-1;");
        fault(2, TEAMS + "runs a 20 ^+1;");
        fault(2, TEAMS + "runs a 20 1 ^1;");
        fault(2, TEAMS + "act ^box a 1 1;");
        fault(2, TEAMS + "act ^when a 1 1;");
        fault(2, TEAMS + "act ^a 1 1;");
        fault(2, TEAMS + "act drop ^5 1;");
        fault(2, TEAMS + "act drop a ^b 1 1;");
        fault(2, TEAMS + "act impede a ^1 1;");
        fault(2, TEAMS + "act drop a 1^;");
        fault(2, TEAMS + "act drop a 1 ^-1;");
        fault(2, TEAMS + "act drop a 1 1 ^1;");
        fault(2, TEAMS + "rule ^5 drop when 1=1;");
        fault(2, TEAMS + "rule r ^when 1=1;");
        fault(2, TEAMS + "rule r ^a when 1=1;");
        fault(2, TEAMS + "rule r drop ^1=1;");
        fault(2, TEAMS + "rule r drop ^excuse 1=1;");
        fault(2, TEAMS + "through ^;");
        fault(2, TEAMS + "through ^-1;");
        fault(2, TEAMS + "through 1 ^1;");
        fault(2, TEAMS + "within ^a;");
        fault(2, TEAMS + "within 1^");
    }

    private static void names() {
        fault(3, T + "team a 1;team ^a 2;");
        fault(3, T + "team a 1;team b 2;team ^a 1;");
        fault(3, T + "team abcdefgh 1;team ^abcdefgh 2;");
        fault(3, TEAMS + "runs ^c 20 0;");
        fault(3, TEAMS + "runs ^aa 20 0;");
        fault(3, TEAMS + "act drop ^c 1 1;");
        fault(3, TEAMS + "act impede ^c a 1 1;");
        fault(3, TEAMS + "act impede a ^c 1 1;");
        fault(3, TEAMS + "act impede a ^a 1 1;");
        fault(3, TEAMS + "rule r drop when 1=1;rule ^r box when 1=1;");
        fault(3, T + "runs ^a 20 0;team a 1;");
        // a rule's name is that of no team that runs or acts
        fault(3, TEAMS + "rule r drop when 1=1;runs ^r 20 0;");
        fault(3, TEAMS + "rule r drop when 1=1;act drop ^r 1 1;");
        fault(3, TEAMS + "rule r drop when 1=1;act impede a ^r 1 1;");
        // teams and rules can't have one another's names, whichever of them comes first, whatever is behind
        fault(3, TEAMS + "rule ^a drop when 1=1;");
        fault(3, TEAMS + "rule ^b drop when 1=1;");
        fault(3, TEAMS + "rule ^b");
        fault(3, TEAMS + "rule ^b\0");
        fault(3, TEAMS + "rule r drop when 1=1;team ^r 3;");
        fault(3, TEAMS + "rule r drop when 1=1;rule s box when 1=1;team ^s 3;");
        fault(3, TEAMS + "rule r drop when 1=1;team ^r 1;");
        fault(3, TEAMS + "rule r drop when 1=1;team ^r");
        fault(3, T + "team abcdefgh 1;rule ^abcdefgh drop when 1=1;");
        fault(3, T + "rule abcdefgh drop when 1=1;team ^abcdefgh 1;");
        check(TEAMS + "rule aa drop when 1=1;rule ab drop when 1=1;team ba 3;", 0, -1);
        check(T + "rule r drop when 1=1;team s 3;rule t box when 1=1;team u 4;", 0, -1);
    }

    private static void numbers() {
        fault(4, "track ^1 50 0 0 0;");
        fault(4, "track ^7 50 0 0 0;");
        fault(4, "track 2 ^49 0 0 0;");
        fault(4, "track 2 ^401 0 0 0;");
        fault(4, "track 2 50 ^21 0 0;");
        fault(4, "track 2 50 0 ^21 0;");
        fault(4, "track 2 50 0 0 ^51;");
        check("track 2 50 0 0 50;", 0, -1);
        check("track 6 400 20 20 400;", 0, -1);
        fault(4, T + "team a ^0;");
        fault(4, T + "team a ^10;");
        fault(4, T + "team a 9;team b ^9;");
        fault(4, T + "team a 9;team b ^0009;");
        fault(4, TEAMS + "runs a ^19 0;");
        fault(4, TEAMS + "runs a ^1000 0;");
        fault(4, TEAMS + "runs a 20 ^21;");
        fault(4, TEAMS + "runs a 20 - ^21;");
        fault(4, TEAMS + "runs a 999 -20;runs a 20 ^1;");
        fault(4, TEAMS + "runs a 20 20;runs a 20 -^1;");
        check(TEAMS + "runs a 20 20;runs a 20 -0;runs b 20 - \n 20;", 0, -1);
        fault(4, TEAMS + "act drop a 1 ^100;");
        check(TEAMS + "act drop a 9999 99;act impede b a 0 0;", 0, -1);
        fault(4, TEAMS + "through ^0;");
        fault(4, TEAMS + "through ^7;");
        fault(4, TEAMS + "within ^100;");
        check(TEAMS + "through 6;within 99;", 0, -1);
        check(TEAMS + "through 1;within 0;", 0, -1);
    }

    private static void tooMany() {
        String six = T + "team a 1;team b 2;team c 3;team d 4;team e 5;team f 6;";
        check(six, 0, -1);
        fault(5, six + "^team a 1;");
        fault(5, six + "^team");
        fault(5, six + "within 1;^team g 7;");
        String twelve = TEAMS + "act drop a 1 1;".repeat(11) + "act impede a b 1 1;";
        check(twelve, 0, -1);
        fault(5, twelve + "^act drop a 1 1;");
        fault(5, twelve + "^act box");
        String eight = TEAMS;
        for (char c = 'k'; c <= 'r'; c++) {
            eight += "rule " + c + " box when 1=1;";
        }
        check(eight, 0, -1);
        fault(5, eight + "^rule s box when 1=1;");
        fault(5, eight + "^rule a");
        fault(5, eight + "^rule k");
        String two = TEAMS + "runs a 20 1;runs a 20 0;";
        check(two, 0, -1);
        fault(5, two + "runs ^a 20 0;");
        fault(5, two + "runs ^a;");
        check(two + "runs b 20 0;", 0, -1);
    }

    private static void twice() {
        fault(6, TEAMS + "through 1;^through 1;");
        fault(6, TEAMS + "within 1;^within 1;");
        fault(6, TEAMS + "within 1;through 1;^within");
        fault(6, TEAMS + "through 2;team c 3;^through 7;");
    }

    private static void tooDeep() {
        check(R + "((((((1=1))))));", 0, -1);
        fault(7, R + "((((((^(1=1)))))));");
        fault(7, R + "((((((^{1}=1))))));");
        fault(7, R + "((((((^not 1=1))))));");
        check(R + "not not not not not not 1=1;", 0, -1);
        fault(7, R + "not not not not not not ^not 1=1;");
        fault(7, R + "not not not not not not ^(1=1);");
        fault(7, R + "not not not not not not ^{1}=1;");
        fault(7, R + "not not not not not not 1=^{1};");
        check(R + "{{{{{{1}}}}}}={{{{{{1}}}}}};", 0, -1);
        fault(7, R + "{{{{{{^{1}}}}}}}=1;");
        fault(7, R + "1=2*{{{{{{1+^{1}}}}}}};");
        // those that are closed are not open any more
        check(R + "not not not not not not 1=1 and not not not not not not 1=1 or ((((((1=1))))));", 0, -1);
        check(R + "not (not (not (1=1))) and not (not (not (1=1)));", 0, -1);
        check(R + "(not (1=1) and not (1=1) and not (1=1) and not (1=1) and (((((1=1))))));", 0, -1);
        fault(7, R + "(not (1=1) and (((((^(1=1)))))));");
        fault(7, R + "not (1=1 and not (not (^not (1=1))));");
        check(R + "not ({1}={2} and {3}={4}) and not ({1}=1 or {{{{1}}}}=1);", 0, -1);
        // the excuse has its own
        check(R + "((((((1=1)))))) excuse ((((((1=1))))));", 0, -1);
        fault(7, R + "1=1 excuse ((((((^(1=1)))))));");
        // where it can't stand it is misplaced rather
        fault(2, R + "((((((1 ^(=1))))));");
        fault(2, R + "((((((1=1 ^not))))));");
    }

    private static void conditions() {
        fault(2, R + "^;");
        fault(2, R + "1^;");
        fault(2, R + "^and 1=1;");
        fault(2, R + "1=^;");
        fault(2, R + "1=1^=1;");
        fault(2, R + "1<2^>1;");
        fault(2, R + "1=1 ^1=1;");
        fault(2, R + "1=1 ^not 1=1;");
        fault(2, R + "1=1 and^;");
        fault(2, R + "1=1 or ^or 1=1;");
        fault(2, R + "(1=1^;");
        fault(2, R + "(1=1 ^excuse 2=2;");
        fault(2, R + "1=1^);");
        fault(2, R + "(1^)=1;");
        fault(2, R + "{1^=1};");
        fault(2, R + "{1 ^and 1}=1;");
        fault(2, R + "{1^)=1;");
        fault(2, R + "1=1^};");
        fault(2, R + "1^}=1;");
        fault(2, R + "(1=1^});");
        fault(2, R + "{^(1=1)};");
        fault(2, R + "{^not 1}=1;");
        fault(2, R + "{^}=1;");
        fault(2, R + "1=^(1);");
        fault(2, R + "1=^not 1;");
        fault(2, R + "^-1<1;");
        fault(2, R + "1<^-1;");
        fault(2, R + "1+^+1<1;");
        fault(2, R + "1+^*1<1;");
        fault(2, R + "1 ^1<1;");
        fault(2, R + "1 ^and 1=1;");
        fault(2, R + "1^;");
        fault(2, R + "not^;");
        fault(2, R + "^a=1;");
        fault(2, R + "^drop=1;");
        fault(2, R + "size=^when;");
        fault(2, R + "1=1 ^when 1=1;");
        fault(2, R + "1=1 excuse ^;");
        fault(2, R + "1=1 excuse 1=1 ^excuse 1=1;");
        fault(2, R + "1=1^");
        fault(2, R + "1=1 excuse 1=1 ^");
        fault(2, R + "(^);");
        check(R + "tenth+size-leg*place<lane and other>ahead or not cut=again excuse forced=rank;", 0, -1);
        check(R + "1=1and2=2or3=3;", 0, -1);
        check(R + "9999=9999;", 0, -1);
    }

    private static void theFirst() {
        fault(4, "track ^9 50 0 0;team A");
        fault(3, TEAMS + "runs ^c 5 99;");
        fault(4, TEAMS + "runs a ^5 99;");
        fault(2, T + "team a ^team a;\t");
        fault(6, T + "within 3;^within A;");
    }

    private static void good() {
        check("track 2 50 0 0 0;\n", 0, -1);
        check("  track\n2 50 0 0 0 ; ", 0, -1);
        check(TEAMS + "team when" + "s 3;team cuts 4;team boxx 5;team ands 6;", 0, -1);
        String longest = TEAMS + "rule r drop when 1=1";
        while (longest.length() < 699) {
            longest += " ";
        }
        check(longest + ";", 0, -1);
        String deep = R + "1=1";
        while (deep.length() + 6 < 700) {
            deep += "or 2<3";
        }
        check(deep + ";", 0, -1);
    }
}
