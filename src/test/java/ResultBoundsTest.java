/** Bounds that the document names: part III of its terms (results, appeals) and promises 29 to 43. */
public final class ResultBoundsTest {
    /** Times a 200, b 200, c 199, d 180 (struck), e none, f 201. */
    private static final String RESULTS = "track 2 50 5 5 0;team a 5;team b 3;team c 4;team d 1;team e 2;team f 9;"
        + "runs a 100 0;runs a 100 0;runs b 99 0;runs b 101 0;runs c 100 0;runs c 99 0;runs d 90 0;runs d 90 0;runs e 20 0;runs f 100 0;runs f 101 0;"
        + "act drop d 5 5;rule x drop when size>4;";
    /** Times a 200, b 210, c 220, d not whole; each act of d that impedes is struck. */
    private static final String IMPEDED = "track 2 50 5 5 0;team a 1;team b 2;team c 3;team d 4;"
        + "runs a 100 0;runs a 100 0;runs b 100 0;runs b 110 0;runs c 100 0;runs c 120 0;rule i impede when 1=1;";
    private static final String CHANGED = "track 3 50 10 15 30;team a 4;team b 2;team c 7;runs a 100 0;runs a 100 0;runs a 100 0;runs b 90 16;runs b 95 0;"
        + "runs b 99 0;runs c 50 3;act drop a 30 5;act impede b a 40 6;act lane c 50 7;rule x drop when size>5;rule y impede when forced=0;rule o box when size>0;";

    public static void main(String[] args) {
        result();
        through();
        impeded();
        would();
        besides();
        again();
        struck();
        rank();
        resultCall();
        who();
        wouldCall();
        fairRank();
        margin();
        impeders();
        againCall();
        winner();
        stays();
        staysFewest();
        appeal();
        appealFollows();
        waive();
        measure();
        measureFollows();
        undo();
        undoTen();
        refusedAppeals();
        Due.close("III", "29", "30", "31", "32", "33", "34", "35", "36", "37", "38", "39", "40", "41", "42", "43");
    }

    // ---- III

    private static void result() {
        BatonZones z = Due.book(RESULTS);
        Due.says("III", "RESULT: TEAMS that are WHOLE and not STRUCK, by TIME, of like ones by LANE");
        Due.all(0, 4, z::result, 2, 1, 0, 5, -1);
        Due.says("III", "RESULT: TEAMS that are WHOLE: a LEG less, a LEG more");
        String almost = "track 6 50 5 5 0;team a 1;" + "runs a 20 0;".repeat(5);
        Due.are(Due.of(Due.book(almost).result(0), Due.book(almost + "runs a 20 0;").result(0)), -1, 0);
        Due.says("III", "RESULT: not STRUCK");
        z.waive(0);
        Due.all(0, 5, z::result, 3, 2, 1, 0, 5, -1);
        BatonZones box = Due.book("track 2 50 5 5 0;team a 1;team b 2;runs a 20 5;runs a 20 0;runs b 20 6;runs b 20 0;rule o box when size>0;");
        Due.all(0, 1, box::result, 0, -1);
        Due.says("III", "RANK: 1 and how many of these have less TIME");
        Due.all(0, 5, z::rank, 3, 3, 2, 1, -2, 5);
        z.waive(0);
        Due.all(0, 5, z::rank, 2, 2, 1, -2, -2, 4);
        Due.says("III", "of like ones by LANE: all six");
        StringBuilder six = new StringBuilder("track 2 50 5 5 0;");
        int[] lanes = {9, 1, 8, 2, 7, 3};
        for (int t = 0; t < 6; t++) {
            char name = (char) ('a' + t);
            six.append("team ").append(name).append(' ').append(lanes[t]).append(";runs ").append(name).append(" 20 0;runs ").append(name).append(" 999 0;");
        }
        BatonZones alike = Due.book(six.toString());
        Due.all(0, 6, alike::result, 1, 3, 5, 4, 2, 0, -1);
        Due.all(0, 5, alike::rank, 1, 1, 1, 1, 1, 1);
    }

    private static void through() {
        Due.says("III", "THROUGH: whose RANK is no more than through tells");
        int[] due = {4, 7, 7, 39, 39, 39};
        for (int n = 1; n <= 6; n++) {
            Due.is(Due.book(RESULTS + "through " + n + ";").who(1), due[n - 1]);
        }
        Due.says("III", "through (2 without)");
        Due.is(Due.book(RESULTS).who(1), 7);
        Due.says("III", "THROUGH: like ones");
        BatonZones alike = Due.book("track 2 50 5 5 0;team a 1;team b 2;team c 3;runs a 20 0;runs a 21 0;runs b 21 0;runs b 20 0;runs c 20 0;runs c 22 0;through 1;");
        Due.are(Due.of(alike.who(1), alike.rank(0), alike.rank(1), alike.rank(2)), 3, 1, 1, 3);
        Due.is(Due.book("track 2 50 5 5 0;team a 1;runs a 20 0;through 6;").who(1), 0);
        Due.says("III", "THROUGH: as the RESULT is then");
        BatonZones then = Due.book(RESULTS);
        Due.are(Due.of(then.who(1), then.waive(0), then.who(1), then.waive(0), then.who(1), then.measure(5, 1, 20, 0), then.who(1)), 7, 1, 12, 0, 7, 121, 36);
        Due.says("III", "THROUGH: the sixth TEAM is one of those that have less TIME");
        Due.are(Due.of(then.rank(5), then.rank(2), then.rank(0), then.result(0), then.fairRank(2)), 1, 2, 3, 5, 2);
    }

    private static void impeded() {
        Due.says("III", "IMPEDED: the OTHER of an ACT impede that is STRUCK by some RULE");
        BatonZones z = Due.book(IMPEDED.replace("1=1", "size>0") + "act impede d a 1 1;act impede d b 1 0;act impede a c 1 1;act impede b d 1 1;act drop b 1 1;"
            + "rule x drop when 1=1;");
        // c, d impeded as well, though a is struck and d is not whole
        Due.is(z.who(2), 13);
        z.waive(0);
        Due.is(z.who(2), 12);
        z.appeal(1, 1, 1);
        Due.is(z.who(2), 14);
        Due.is(Due.book(IMPEDED.replace("rule i impede", "rule i drop") + "act impede d a 1 1;").who(2), 0);
        Due.is(Due.book(IMPEDED + "act drop a 1 1;").who(2), 0);
        Due.says("III", "IMPEDED: by several ACTS, of which one is STRUCK");
        BatonZones several = Due.book(IMPEDED.replace("1=1", "size=7") + "act impede d a 1 6;act impede d a 1 7;act impede d a 1 8;");
        Due.are(Due.of(several.who(2), several.would(0), several.impeders(0)), 1, 193, 8);
    }

    private static void would() {
        Due.says("III", "WOULD: its TIME less SIZES of all such ACTS");
        BatonZones z = Due.book(IMPEDED.replace("1=1", "tenth>0") + "act impede d a 1 99;act impede c a 1 99;act impede d a 0 99;act impede d b 1 0;act impede a d 1 9;"
            + "act drop a 1 50;");
        Due.all(0, 3, z::would, 2, 210, 220, -2);
        Due.says("III", "WOULD: SIZES of more than its TIME");
        BatonZones most = Due.book("track 2 50 5 5 0;team a 1;team b 2;runs a 20 0;runs a 20 0;rule i impede when 1=1;" + "act impede b a 1 99;".repeat(12));
        Due.are(Due.of(most.would(0), most.fairRank(0), most.rank(0), most.who(1)), 40 - 12 * 99, 1, 1, 1);
        most.waive(11);
        Due.is(most.would(0), 40 - 11 * 99);
    }

    /** Besides, where b and c of 210 and 220 were impeded by so much, and as many as told come through. */
    private static int besides(int b, int c, String more) {
        String acts = (b < 0 ? "" : "act impede d b 1 " + b + ";") + (c < 0 ? "" : "act impede d c 1 " + c + ";");
        return Due.book(IMPEDED + acts + more).who(3);
    }

    private static void besides() {
        Due.says("III", "BESIDES: whose WOULD is no more than the greatest TIME of those THROUGH and within");
        Due.are(Due.of(besides(5, 15, "through 1;"), besides(4, 15, "through 1;"), besides(5, 14, "through 1;"), besides(4, 14, "through 1;")), 6, 4, 2, 0);
        Due.are(Due.of(besides(10, 20, "through 1;within 0;"), besides(9, 20, "through 1;within 0;"), besides(10, 19, "through 1;within 0;")), 6, 4, 2);
        Due.are(Due.of(besides(0, 0, "through 1;within 9;"), besides(0, 0, "through 1;within 10;"), besides(0, 0, "through 1;within 19;"),
            besides(0, 0, "through 1;within 20;"), besides(0, 0, "through 1;within 99;")), 0, 2, 2, 6, 6);
        Due.says("III", "within (5 without)");
        Due.are(Due.of(besides(0, 5, ""), besides(0, 4, ""), besides(0, 6, "within 4;"), besides(0, 5, "within 4;")), 4, 0, 4, 0);
        Due.says("III", "BESIDES: the greatest TIME of those THROUGH");
        // through are a and b (210)
        Due.are(Due.of(besides(-1, 5, "through 2;"), besides(-1, 4, "through 2;"), besides(-1, 15, "through 1;"), besides(-1, 14, "through 1;")), 4, 0, 4, 0);
        Due.says("III", "BESIDES: IMPEDED");
        Due.are(Due.of(besides(-1, -1, "through 1;within 99;"), besides(-1, 0, "through 1;within 99;")), 0, 4);
        Due.says("III", "BESIDES: not THROUGH");
        Due.are(Due.of(besides(9, 9, "through 3;within 99;"), besides(9, 9, "through 6;within 99;"), besides(9, 9, "through 2;within 99;")), 0, 0, 4);
        Due.says("III", "BESIDES: in the RESULT");
        Due.are(Due.of(besides(9, 9, "through 1;within 99;act drop c 1 1;"), besides(9, 9, "through 1;within 99;act drop c 1 1;rule x drop when 1=1;")), 6, 2);
        BatonZones part = Due.book(IMPEDED.replace("runs c 100 0;", "") + "act impede d b 1 9;act impede d c 1 9;through 1;within 99;");
        Due.are(Due.of(part.who(2), part.who(3), part.who(4)), 6, 2, 3);
        Due.says("III", "BESIDES: as the RESULT is then");
        BatonZones then = Due.book(IMPEDED + "act impede d b 1 9;act impede d c 1 15;through 1;");
        Due.are(Due.of(then.who(3), then.waive(0), then.who(3), then.waive(1), then.who(3), then.undo(), then.who(3), then.measure(0, 1, 200, 0), then.who(3)),
            6, 1, 4, 1, 0, 1, 4, 300, 4);
        Due.says("III", "BESIDES: the sixth TEAM, the first");
        BatonZones sixth = Due.book(RESULTS + "act impede e f 1 9;act impede e a 1 9;rule i impede when 1=1;through 1;");
        Due.are(Due.of(sixth.who(1), sixth.who(2), sixth.who(3)), 4, 33, 33);
        Due.says("III", "BESIDES: WOULD below 0");
        BatonZones below = Due.book(IMPEDED + "act impede d c 1 99;act impede d c 1 99;act impede d c 1 99;through 1;within 0;");
        Due.are(Due.of(below.would(2), below.who(3)), -77, 4);
    }

    private static void again() {
        Due.says("III", "AGAIN: if BESIDES are 2 or more");
        Due.are(Due.of(Due.book(IMPEDED + "through 1;act impede d b 1 9;").again(), Due.book(IMPEDED + "through 1;act impede d b 1 9;act impede d c 1 15;").again(),
            Due.book(IMPEDED + "through 1;act impede d b 1 9;act impede d c 1 14;").again(), Due.book(IMPEDED + "through 1;").again()), 0, 1, 0, 0);
        BatonZones three = Due.book(IMPEDED + "runs d 90 0;runs d 90 0;team e 5;through 1;within 99;act impede e a 1 1;act impede e b 1 1;act impede e c 1 1;");
        Due.are(Due.of(three.who(3), three.again()), 7, 1);
        Due.says("III", "AGAIN: or no WHOLE TEAM is neither STRUCK nor IMPEDED");
        String two = "track 2 50 5 5 0;team a 1;team b 2;team c 3;runs a 20 0;runs a 20 0;runs b 20 0;runs b 21 0;act drop a 1 1;act drop b 1 1;"
            + "act impede c a 1 1;act impede c b 1 1;";
        Due.are(Due.of(Due.book(two).again(), Due.book(two + "rule x drop when lane=1;").again(), Due.book(two + "rule x drop when 1=1;").again(),
            Due.book(two + "rule i impede when other=2;").again(), Due.book(two + "rule i impede when 1=1;").again(),
            Due.book(two + "rule x drop when lane=1;rule i impede when other=2;").again(),
            Due.book(two + "rule x drop when lane=1;rule i impede when other=1;").again()), 0, 0, 1, 0, 1, 1, 0);
        // c, that is neither, is not whole; then it is
        Due.are(Due.of(Due.book(two + "rule x drop when 1=1;runs c 20 0;").again(), Due.book(two + "rule x drop when 1=1;runs c 20 0;runs c 20 0;").again()), 1, 0);
        Due.says("III", "AGAIN: (0 without a WHOLE TEAM)");
        Due.are(Due.of(Due.book("track 2 50 5 5 0;").again(), Due.book("track 2 50 5 5 0;team a 1;").again(),
            Due.book("track 2 50 5 5 0;team a 1;runs a 20 0;act drop a 1 1;rule x drop when 1=1;").again(),
            Due.book("track 2 50 5 5 0;team a 1;runs a 20 0;act drop a 1 1;rule x drop when 1=1;runs a 20 0;").again()), 0, 0, 0, 1);
    }

    // ---- 29, 30, 31, 32

    private static void struck() {
        BatonZones z = Due.book("track 2 50 5 5 0;team a 1;team b 2;team c 3;runs a 100 8;act drop a 90 6;act lane a 20 6;act drop a 20 7;act drop b 5 1;act drop a 9 1;"
            + "rule z drop when size=99;rule x drop when size>5;rule y drop when size>6;rule l lane when size>0;rule o box when size=3;");
        Due.says(29, "the first ACT (by TENTH, then number; what 0), the first RULE by which that is STRUCK (1); how many ACTS of it are (2)");
        Due.all(0, 2, i -> z.struck(0, i), 1, 3, 4);
        z.waive(1);
        Due.all(0, 2, i -> z.struck(0, i), 2, 1, 3);
        z.waive(2);
        Due.all(0, 2, i -> z.struck(0, i), 0, 1, 2);
        z.waive(0);
        // its box at 100
        Due.all(0, 2, i -> z.struck(0, i), 5, 4, 1);
        // a drop of the number 0, at the tenth of the box and behind it
        z.waive(0);
        z.appeal(0, 0, 100);
        Due.all(0, 2, i -> z.struck(0, i), 0, 1, 2);
        z.appeal(0, 0, 101);
        Due.all(0, 2, i -> z.struck(0, i), 5, 4, 2);
        Due.says(29, "-2 of 0, 1: it is not STRUCK");
        Due.all(0, 2, i -> z.struck(1, i), -2, -2, 0);
        Due.all(0, 2, i -> z.struck(2, i), -2, -2, 0);
        Due.says(29, "the first RULE by which that is STRUCK: each of the eight");
        for (int rule = 0; rule < 8; rule++) {
            StringBuilder rules = new StringBuilder("track 2 50 5 5 0;team a 1;act drop a 1 1;");
            for (int r = 0; r < 8; r++) {
                rules.append("rule ").append((char) ('k' + r)).append(" drop when 1=").append(r < rule ? "2;" : "1;");
            }
            Due.is(Due.book(rules.toString()).struck(0, 1), rule);
        }
        Due.says(29, "how many ACTS of it are: the most that there can be");
        String most = "track 6 50 0 0 0;team a 1;" + "runs a 20 1;".repeat(5) + "runs a 20 0;" + "act cut a 1 1;".repeat(12) + "rule c cut when 1=1;rule o box when 1=1;";
        Due.all(0, 2, i -> Due.book(most).struck(0, i), 0, 0, 17);
        Due.says(29, "how many ACTS of it are: those of the book told ahead of it are none of it");
        BatonZones fewer = Due.book("track 2 50 0 0 0;team a 1;act drop a 9 1;act drop a 8 1;act drop a 7 1;rule x drop when 1=1;");
        Due.all(0, 2, i -> fewer.struck(0, i), 2, 0, 3);
        Due.told(fewer, "track 2 50 0 0 0;team a 1;act drop a 9 1;act drop a 10 1;rule x drop when 1=1;");
        Due.all(0, 2, i -> fewer.struck(0, i), 0, 0, 2);
        Due.told(fewer, "track 2 50 0 0 0;team a 1;rule x drop when 1=1;");
        Due.all(0, 2, i -> fewer.struck(0, i), -2, -2, 0);
        Due.says(29, "NONE, too, for another what");
        Due.edges(0, 2, -1, i -> z.struck(0, i));
        Due.all(-1, 3, i -> z.struck(1, i), -1, -2, -2, 0, -1);
        Due.says(29, "NONE: there is no such TEAM");
        Due.edges(0, 2, -1, t -> z.struck(t, 0));
        Due.edges(0, 2, -1, t -> z.struck(t, 2));
    }

    private static void rank() {
        BatonZones z = Due.book(RESULTS);
        Due.says(30, "RANK of a TEAM; -2: it is not in the RESULT");
        Due.all(0, 5, z::rank, 2, 2, 1, -2, -2, 4);
        Due.says(30, "NONE: there is no such TEAM");
        Due.edges(0, 5, -1, z::rank);
        Due.edges(0, 0, -1, Due.book("track 2 50 5 5 0;team a 1;")::rank);
    }

    private static void resultCall() {
        BatonZones z = Due.book(RESULTS);
        Due.says(31, "The k-th (0 ..) of the RESULT; NONE if there are not so many");
        Due.edges(0, 3, -1, z::result);
        Due.all(0, 1, Due.book("track 2 50 5 5 0;team a 1;")::result, -1, -1);
    }

    private static void who() {
        BatonZones z = Due.book(RESULTS);
        Due.says(32, "TEAMS (bits) what 0: STRUCK, 1: THROUGH, 2: IMPEDED, 3: BESIDES, 4: WHOLE");
        Due.all(0, 4, z::who, 8, 7, 0, 0, 47);
        BatonZones all = Due.book(IMPEDED + "through 1;act impede d b 1 9;act impede d c 1 15;");
        Due.all(0, 4, all::who, 8, 1, 6, 6, 7);
        Due.says(32, "TEAMS (bits): the sixth, none");
        BatonZones six = Due.book(RESULTS.replace("act drop d", "act impede a f 1 1;act drop f") + "rule i impede when 1=1;");
        Due.all(0, 4, six::who, 33, 12, 32, 0, 47);
        Due.all(0, 4, Due.book("track 2 50 5 5 0;")::who, 0, 0, 0, 0, 0);
        Due.says(32, "NONE for another what");
        Due.edges(0, 4, -1, z::who);
    }

    // ---- 33, 34, 35, 36, 37

    private static void wouldCall() {
        BatonZones z = Due.book(RESULTS);
        Due.says(33, "WOULD of a TEAM that is WHOLE; -2: it is not");
        Due.all(0, 5, z::would, 200, 200, 199, 180, -2, 201);
        Due.says(33, "NONE: there is no such TEAM");
        Due.edges(0, 5, -1, z::would);
    }

    private static void fairRank() {
        Due.says(34, "RANK of a TEAM among the RESULT, if for each of these WOULD stood for TIME");
        // 200, 210, 220
        Due.all(0, 3, Due.book(IMPEDED + "act impede d b 1 9;")::fairRank, 1, 2, 3, -2);
        Due.all(0, 3, Due.book(IMPEDED + "act impede d b 1 10;")::fairRank, 1, 1, 3, -2);
        Due.all(0, 3, Due.book(IMPEDED + "act impede d b 1 11;")::fairRank, 2, 1, 3, -2);
        Due.all(0, 3, Due.book(IMPEDED + "act impede d b 1 11;act impede d c 1 21;")::fairRank, 3, 1, 1, -2);
        Due.says(34, "among the RESULT: one that is not in it counts in none");
        Due.all(0, 3, Due.book(IMPEDED + "act impede d b 1 99;act drop b 1 1;rule x drop when 1=1;")::fairRank, 1, -2, 2, -2);
        Due.says(34, "-2: it is not in the RESULT");
        Due.all(0, 5, Due.book(RESULTS)::fairRank, 2, 2, 1, -2, -2, 4);
        Due.says(34, "NONE: there is no such TEAM");
        Due.edges(0, 5, -1, Due.book(RESULTS)::fairRank);
    }

    private static void margin() {
        BatonZones z = Due.book(RESULTS);
        Due.says(35, "By how much the TIME of the k-th of the RESULT (1 ..) is more than that of the one ahead of it");
        Due.all(1, 3, z::margin, 1, 0, 1);
        Due.says(35, "NONE if there is none such");
        Due.edges(1, 3, -1, z::margin);
        BatonZones one = Due.book("track 2 50 5 5 0;team a 1;runs a 20 0;runs a 20 0;team b 2;");
        Due.all(-1, 2, one::margin, -1, -1, -1, -1);
        Due.all(0, 1, Due.book("track 2 50 5 5 0;")::margin, -1, -1);
        BatonZones most = Due.book("track 2 50 5 5 0;team a 1;runs a 20 0;runs a 20 0;team b 2;runs b 999 0;runs b 999 0;");
        Due.is(most.margin(1), 1958);
    }

    private static void impeders() {
        Due.says(36, "TEAMS (bits) by which a TEAM was impeded by ACTS that are STRUCK by some RULE");
        BatonZones z = Due.book(RESULTS + "act impede a f 1 1;act impede f a 1 1;act impede b a 1 2;act impede b a 1 3;act impede e a 1 0;rule i impede when size>0;");
        Due.all(0, 5, z::impeders, 34, 0, 0, 0, 0, 1);
        z.waive(3);
        Due.is(z.impeders(0), 34);
        z.waive(4);
        Due.is(z.impeders(0), 32);
        z.appeal(5, 1, 1);
        Due.is(z.impeders(0), 48);
        Due.says(36, "by ACTS that are STRUCK: the first of all, the last of all that were told");
        BatonZones ends = Due.book(IMPEDED + "act impede b a 1 1;" + "act drop a 1 1;".repeat(10) + "act impede c a 1 1;");
        Due.are(Due.of(ends.impeders(0), ends.waive(0), ends.impeders(0), ends.waive(11), ends.impeders(0)), 6, 1, 4, 1, 0);
        // a drop impedes no one; an act that impedes is none against its own team
        Due.is(z.impeders(3), 0);
        Due.says(36, "NONE: there is no such TEAM");
        Due.edges(0, 5, -1, z::impeders);
    }

    private static void againCall() {
        Due.says(37, "AGAIN: 1, 0");
        BatonZones z = Due.book("track 2 50 5 5 0;team a 1;runs a 20 0;runs a 20 0;act drop a 1 1;rule x drop when size>0;");
        Due.are(Due.of(z.again(), z.waive(0), z.again(), z.waive(0), z.again(), z.appeal(0, 1, 0), z.again(), new BatonZones().again()), 1, 1, 0, 0, 1, 1, 0, 0);
    }

    // ---- 38, 39

    private static void winner() {
        // a 180 struck by its drop, b 190 by its box, c 200
        String text = "track 2 50 5 5 0;team a 1;team b 2;team c 3;runs a 90 0;runs a 90 0;runs b 90 9;runs b 100 0;runs c 100 0;runs c 100 0;"
            + "act drop a 5 5;rule x drop when size=5;rule o box when size=4;";
        BatonZones z = Due.book(text);
        Due.says(38, "The first of the RESULT, were an ACT (told or box) WAIVED");
        Due.all(0, 3, z::winner, 0, 2, 1, 2);
        Due.says(38, "(if it is: not WAIVED)");
        z.waive(0);
        Due.all(0, 3, z::winner, 2, 0, 0, 0);
        Due.says(38, "were an ACT WAIVED: it is as it was");
        Due.are(Due.of(z.act(0, 5), z.result(0), z.who(0), z.about(11)), 1, 0, 2, 1);
        Due.says(38, "WAIVED ACTS count in none of these: a box that is WAIVED, an ACT that forces");
        BatonZones boxes = Due.book("track 3 50 5 5 0;team a 1;runs a 20 0;runs a 20 0;runs a 20 0;rule o box when again=1;act cut a 1 1;");
        Due.all(0, 3, boxes::winner, -2, 0, 0, -1);
        BatonZones forced = Due.book("track 2 50 5 5 0;team a 1;team b 2;runs a 20 0;runs a 20 0;act impede b a 1 1;act drop a 1 1;rule x drop when forced=1;");
        Due.all(0, 2, forced::winner, 0, 0, -2);
        Due.says(38, "-2: there is none");
        BatonZones none = Due.book("track 2 50 5 5 0;team a 1;runs a 20 0;act drop a 1 1;");
        Due.all(-1, 2, none::winner, -1, -2, -2, -1);
        Due.says(38, "NONE: there is no such ACT");
        Due.edges(0, 3, -1, z::winner);
        Due.is(new BatonZones().winner(0), -1);
    }

    private static int[] stays(BatonZones z, int team) {
        return Due.of(z.stays(team, 0), z.stays(team, 1));
    }

    private static void stays() {
        String ab = "track 2 50 0 0 0;team a 1;team b 2;";
        Due.says(39, "The fewest ACTS, WAIVED besides, by which a TEAM is not STRUCK: none of them");
        Due.are(stays(Due.book(ab), 0), 0, 0);
        Due.are(stays(Due.book(ab + "act drop a 1 1;rule x drop when size=2;"), 0), 0, 0);
        Due.are(stays(Due.book(ab + "act drop a 1 1;rule x drop when size=1;"), 1), 0, 0);
        Due.says(39, "The fewest ACTS: all twelve");
        Due.are(stays(Due.book(ab + "act drop a 1 1;".repeat(12) + "rule x drop when size=1;"), 0), 12, 4095);
        Due.are(stays(Due.book(ab + "act drop a 1 1;".repeat(11) + "act drop b 1 1;rule x drop when size=1;"), 0), 11, 2047);
        Due.are(stays(Due.book(ab + "act drop b 1 1;" + "act drop a 1 1;".repeat(11) + "rule x drop when size=1;"), 0), 11, 4094);
        Due.says(39, "-2: by none");
        String box = ab + "runs a 20 1;act drop a 1 1;rule o box when size=1;";
        Due.are(stays(Due.book(box), 0), -2, -2);
        Due.are(stays(Due.book(box), 1), 0, 0);
        // the act that excuses the box must not be waived
        BatonZones excused = Due.book(ab + "runs a 20 1;act impede b a 10 1;rule o box when size=1 excuse forced=1;");
        Due.are(stays(excused, 0), 0, 0);
        excused.waive(0);
        Due.are(stays(excused, 0), -2, -2);
        Due.says(39, "NONE, too, for another what");
        Due.edges(0, 1, -1, i -> excused.stays(1, i));
        Due.all(-1, 2, i -> excused.stays(0, i), -1, -2, -2, -1);
        Due.says(39, "NONE: there is no such TEAM");
        Due.edges(0, 1, -1, t -> excused.stays(t, 0));
        Due.edges(0, 1, -1, t -> excused.stays(t, 1));
    }

    private static void staysFewest() {
        String ab = "track 2 50 0 0 0;team a 1;team b 2;";
        Due.says(39, "(bits; of like ones the least number)");
        // two of three, whichever
        BatonZones two = Due.book(ab + "act drop a 1 1;act drop a 1 1;act drop a 1 1;rule x drop when again>0;");
        Due.are(stays(two, 0), 2, 3);
        BatonZones last = Due.book(ab + "act lane a 1 1;act drop a 3 1;act drop a 2 1;act drop a 1 1;rule x drop when again>0;");
        Due.are(stays(last, 0), 2, 6);
        BatonZones other = Due.book(ab + "act drop a 9 1;act impede b a 5 1;rule x drop when forced=1;");
        Due.are(stays(other, 0), 1, 1);
        BatonZones fewer = Due.book(ab + "act drop a 9 1;act drop a 9 1;act impede b a 5 1;rule x drop when forced=1;");
        Due.are(stays(fewer, 0), 1, 4);
        Due.says(39, "by which a TEAM is not STRUCK: each of its ACTS as often again and forced as it is then");
        for (int again = 0; again < 12; again++) {
            BatonZones nth = Due.book(ab + "act drop a 1 1;".repeat(12) + "rule x drop when again=" + again + ";");
            // so many may stay that none comes to be again so often
            Due.are(stays(nth, 0), 12 - again, (1 << 12 - again) - 1);
        }
        BatonZones ninth = Due.book(ab + "act drop a 1 1;".repeat(9) + "act lane a 1 1;rule x lane when size=1;");
        Due.are(stays(ninth, 0), 1, 512);
        BatonZones lanes = Due.book(ab + "act drop a 1 1;".repeat(8) + "act lane a 1 2;act lane a 1 1;rule x lane when size=1 and again=1;");
        Due.are(stays(lanes, 0), 1, 256);
        BatonZones forcedOften = Due.book(ab + "act impede b a 1 1;".repeat(11) + "act drop a 1 1;rule x drop when forced>3;");
        Due.are(stays(forcedOften, 0), 1, 2048);
        BatonZones boxForced = Due.book(ab + "runs a 20 0;" + "act impede b a 1 1;".repeat(12) + "rule x box when forced>3;");
        Due.are(stays(boxForced, 0), 9, 511);
        StringBuilder full = new StringBuilder("track 6 50 0 0 0;");
        for (int t = 0; t < 6; t++) {
            full.append("team ").append((char) ('a' + t)).append(' ').append(t + 1).append(';');
            full.append(("runs " + (char) ('a' + t) + "20 0;").repeat(6));
        }
        full.append("act cut a1 1;".repeat(11)).append("act impede a f100 1;rule o box when forced=1;");
        BatonZones all = Due.book(full.toString());
        Due.are(Due.of(all.about(6), all.fact(41, 9), all.struckBy(41, 0), all.struckBy(40, 0)), 42, 1, 1, 0);
        Due.are(stays(all, 5), 1, 2048);
        Due.says(39, "ACTS that were told, WAIVED besides those that are");
        two.waive(2);
        Due.are(stays(two, 0), 1, 1);
        two.waive(0);
        Due.are(stays(two, 0), 0, 0);
        two.waive(2);
        Due.are(stays(two, 0), 1, 2);
        Due.are(Due.of(two.act(0, 5), two.act(1, 5), two.act(2, 5), two.about(11)), 1, 0, 0, 3);
        Due.says(39, "by which a TEAM is not STRUCK: a WAIVED one can make another one STRUCK");
        BatonZones worse = Due.book(ab + "act drop a 1 1;act drop a 2 1;act drop a 3 1;rule x drop when again=0 excuse size=2;rule y drop when again=2;");
        Due.are(stays(worse, 0), 3, 7);
        worse.appeal(0, 1, 2);
        Due.are(stays(worse, 0), 1, 2);
        BatonZones free = Due.book(ab + "act impede b a 1 1;act drop a 5 1;rule x drop when forced=0;");
        free.waive(0);
        Due.are(stays(free, 0), 1, 2);
    }

    // ---- 40, 41

    private static void appeal() {
        Due.says(40, "An ACT that was told has another TENTH (what 0), SIZE (1): what it was");
        BatonZones z = Due.book(CHANGED);
        Due.are(Due.of(z.appeal(0, 0, 0), z.act(0, 3), z.appeal(0, 0, 9999), z.act(0, 3), z.appeal(0, 0, 30), z.act(0, 4)), 30, 0, 0, 9999, 9999, 5);
        Due.are(Due.of(z.appeal(2, 1, 0), z.act(2, 4), z.appeal(2, 1, 99), z.act(2, 4), z.appeal(2, 1, 1), z.act(2, 3)), 7, 0, 0, 99, 99, 50);
        Due.says(40, "NONE: there is none such; of a box there is none");
        Due.edges(0, 2, -1, a -> Due.book(CHANGED).appeal(a, 0, 1));
        Due.edges(0, 2, -1, a -> Due.book(CHANGED).appeal(a, 1, 1));
        Due.all(3, 7, a -> Due.book(CHANGED).appeal(a, 1, 1), -1, -1, -1, -1, -1);
        Due.edges(0, 1, -1, what -> Due.book(CHANGED).appeal(0, what, 1));
        Due.says(40, "NONE: it is so");
        Due.are(Due.of(Due.book(CHANGED).appeal(0, 0, 30), Due.book(CHANGED).appeal(0, 1, 5), Due.book(CHANGED).appeal(0, 0, 5), Due.book(CHANGED).appeal(0, 1, 30)),
            -1, -1, 30, 5);
        Due.says(40, "NONE: a number can't be");
        Due.edges(0, 9999, -1, v -> Due.book(CHANGED).appeal(0, 0, v));
        Due.edges(0, 99, -1, v -> Due.book(CHANGED).appeal(0, 1, v));
    }

    private static void appealFollows() {
        Due.says(40, "another TENTH: all that is so of the ACTS then");
        BatonZones z = Due.book(CHANGED);
        Due.are(Due.of(z.fact(0, 3), z.fact(1, 6), z.fact(0, 9), z.struckBy(1, 1)), 15, 93, 0, 1);
        z.appeal(1, 0, 30);
        // b is then at 660 * 30 / 90
        Due.are(Due.of(z.fact(1, 6), z.fact(0, 9), z.who(2)), 70, 1, 1);
        z.appeal(1, 0, 9);
        Due.are(Due.of(z.fact(0, 9), z.appeal(1, 0, 10), z.fact(0, 9)), 0, 9, 1);
        Due.says(40, "another SIZE: all that is so of the TEAMS then");
        Due.are(Due.of(z.who(0), z.appeal(0, 1, 6), z.who(0), z.would(0), z.appeal(1, 1, 99), z.would(0), z.appeal(0, 1, 5), z.who(0)), 2, 5, 3, 294, 6, 201, 6, 2);
        Due.says(40, "an ACT that is WAIVED, too");
        Due.are(Due.of(z.waive(0), z.appeal(0, 1, 99), z.act(0, 4), z.act(0, 5), z.who(0), z.waive(0), z.who(0)), 1, 5, 99, 1, 2, 0, 3);
    }

    private static void waive() {
        Due.says(41, "An ACT that was told is WAIVED: 1; or not any more: 0");
        BatonZones z = Due.book(CHANGED);
        Due.are(Due.of(z.waive(1), z.act(1, 5), z.who(2), z.waive(1), z.act(1, 5), z.who(2), z.waive(1), z.about(11)), 1, 1, 0, 0, 0, 1, 1, 3);
        BatonZones twelve = Due.book("track 2 50 0 0 0;team a 1;" + "act drop a 1 1;".repeat(12) + "rule x drop when again=0;");
        for (int a = 0; a < 12; a++) {
            Due.are(Due.of(twelve.struck(0, 0), twelve.waive(a), twelve.act(a, 5), twelve.struckBy(a, 0)), a, 1, 1, 0);
        }
        Due.is(twelve.struck(0, 0), -2);
        Due.says(41, "NONE: there is none such; a box is none that was told");
        Due.edges(0, 2, -1, a -> Due.book(CHANGED).waive(a));
        Due.edges(0, 11, -1, a -> Due.book("track 2 50 0 0 0;team a 1;" + "act drop a 1 1;".repeat(12)).waive(a));
        Due.all(3, 7, a -> Due.book(CHANGED).waive(a), -1, -1, -1, -1, -1);
        // numbers that a shift would take for act 0
        Due.are(Due.of(z.waive(32), z.waive(64), z.waive(128), z.about(11)), -1, -1, -1, 3);
    }

    // ---- 42

    private static int measured(int team, int leg, int tenths, int metres) {
        return Due.book(CHANGED).measure(team, leg, tenths, metres);
    }

    private static void measure() {
        Due.says(42, "A LEG (from 1 on) that was told has other TENTHS and metres from the line: TIME of the TEAM");
        Due.are(Due.of(measured(0, 1, 101, 0), measured(0, 2, 99, -1), measured(0, 3, 20, 0), measured(1, 1, 999, 20), measured(2, 1, 51, 3)),
            301, 299, 220, 1193, 51);
        Due.says(42, "NONE: a number can't be");
        Due.edges(20, 999, -1, n -> measured(0, 2, n, 5));
        Due.edges(20, 999, -1, n -> measured(0, 3, n, 0));
        Due.edges(-20, 20, -1, n -> measured(0, 2, 50, n));
        Due.edges(-20, 20, -1, n -> measured(1, 1, 50, n));
        Due.says(42, "(0 for the last of all LEGS)");
        Due.edges(0, 0, -1, n -> measured(0, 3, 50, n));
        // the last one told of c is not the last of all
        Due.edges(-20, 20, -1, n -> measured(2, 1, 49, n));
        Due.says(42, "NONE: there is none such");
        Due.edges(0, 2, -1, t -> measured(t, 1, 60, 6));
        Due.edges(1, 3, -1, leg -> measured(0, leg, 60, 0));
        Due.edges(1, 1, -1, leg -> measured(2, leg, 60, 0));
        Due.says(42, "NONE: it is so");
        Due.are(Due.of(measured(0, 1, 100, 0), measured(1, 1, 90, 16), measured(0, 3, 100, 0)), -1, -1, -1);
        // of the two numbers one is another
        Due.are(Due.of(measured(1, 1, 90, 15), measured(1, 1, 91, 16), measured(1, 1, 90, -16)), 284, 285, 284);
    }

    private static void measureFollows() {
        Due.says(42, "other TENTHS and metres: PLACES, boxes, results then");
        BatonZones z = Due.book(CHANGED);
        // boxes: 3, 4 of a, 5, 6 of b, 7 of c
        Due.are(Due.of(z.act(5, 3), z.act(5, 4), z.act(6, 3), z.struck(1, 0), z.place(1, 90), z.comes(1, 1000), z.result(0)), 90, 1, 185, 1, 660, 185, 0);
        Due.are(Due.of(z.measure(1, 1, 80, 15), z.act(5, 3), z.act(5, 4), z.act(6, 3), z.place(1, 80), z.comes(1, 1000), z.about(11)), 274, 80, 0, 175, 650, 175, 1);
        z.waive(1);
        Due.are(Due.of(z.who(0), z.result(0), z.margin(1), z.rank(0)), 0, 1, 26, 2);
        Due.are(Due.of(z.measure(1, 3, 125, 0), z.result(0), z.rank(0), z.rank(1), z.margin(1)), 300, 1, 1, 1, 0);
        Due.are(Due.of(z.measure(1, 3, 126, 0), z.result(0), z.rank(1), z.measure(1, 2, 94, 0), z.result(0)), 301, 0, 2, 300, 1);
        Due.are(Due.of(z.measure(0, 1, 100, -20), z.act(3, 4), z.who(0), z.measure(0, 1, 100, -10), z.act(3, 4), z.who(0)), 300, 10, 1, 300, 0, 0);
        Due.are(Due.of(z.inBox(0, 100), z.leg(0, 1, 4), z.leg(0, 2, 3), z.fastest(1, 1), z.fastest(1, 2)), 1, 0, 250, 50, 230);
    }

    // ---- 43

    private static void undo() {
        Due.says(43, "UNDO takes back the latest that was not: how many more can be");
        BatonZones z = Due.book(CHANGED);
        z.appeal(0, 0, 31);
        z.appeal(0, 1, 66);
        z.waive(2);
        z.waive(0);
        z.measure(0, 1, 30, -13);
        z.measure(2, 1, 99, 19);
        Due.are(Due.of(z.undo(), z.leg(2, 1, 0), z.leg(2, 1, 2), z.team(2, 2), z.leg(0, 1, 0)), 5, 50, 3, 50, 30);
        Due.are(Due.of(z.undo(), z.leg(0, 1, 0), z.leg(0, 1, 2), z.team(0, 2), z.act(4, 3)), 4, 100, 0, 300, 200);
        Due.are(Due.of(z.undo(), z.act(0, 5), z.act(2, 5), z.who(0)), 3, 0, 1, 3);
        Due.are(Due.of(z.undo(), z.act(2, 5), z.act(0, 4)), 2, 0, 66);
        Due.are(Due.of(z.undo(), z.act(0, 4), z.act(0, 3), z.who(0)), 1, 5, 31, 2);
        Due.are(Due.of(z.undo(), z.act(0, 3), z.about(11)), 0, 30, 0);
        Due.says(43, "NONE if none can");
        Due.are(Due.of(z.undo(), z.undo(), z.about(11), new BatonZones().undo(), Due.book(CHANGED).undo()), -1, -1, 0, -1, -1);
        Due.same(z, Due.book(CHANGED));
        Due.says(43, "UNDO of a waive that was none any more");
        BatonZones w = Due.book(CHANGED);
        Due.are(Due.of(w.waive(0), w.waive(0), w.undo(), w.act(0, 5), w.undo(), w.act(0, 5), w.undo()), 1, 0, 1, 1, 0, 0, -1);
        Due.says(43, "what is taken back is gone: another one comes in its stead");
        Due.are(Due.of(w.appeal(0, 0, 1), w.appeal(0, 0, 2), w.undo(), w.appeal(0, 0, 3), w.about(11), w.undo(), w.act(0, 3), w.undo(), w.act(0, 3), w.undo()),
            30, 1, 1, 1, 2, 1, 1, 0, 30, -1);
    }

    private static void undoTen() {
        Due.says(43, "10 are kept, the eldest goes");
        for (int made = 9; made <= 25; made++) {
            BatonZones z = Due.book(CHANGED);
            for (int i = 1; i <= made; i++) {
                z.appeal(0, 0, 100 + i);
                Due.is(z.about(11), Math.min(i, 10));
            }
            int kept = Math.min(made, 10);
            for (int i = 1; i <= kept; i++) {
                Due.are(Due.of(z.undo(), z.act(0, 3)), kept - i, made == i ? 30 : 100 + made - i);
            }
            Due.is(z.undo(), -1);
        }
        Due.says(43, "10 are kept: of one sort and of others, undone and made again");
        BatonZones z = Due.book(CHANGED);
        z.waive(0);
        for (int i = 0; i < 3; i++) {
            z.measure(1, 1, 100 + i, 2);
            z.appeal(1, 1, 50 + i);
            z.waive(2);
        }
        Due.is(z.about(11), 10);
        z.undo();
        z.undo();
        Due.are(Due.of(z.about(11), z.appeal(2, 0, 1), z.appeal(2, 0, 2), z.appeal(2, 0, 3), z.about(11)), 8, 50, 1, 2, 10);
        for (int i = 9; i >= 0; i--) {
            Due.is(z.undo(), i);
        }
        // the waive ahead of all is not kept
        Due.are(Due.of(z.undo(), z.act(0, 5), z.act(2, 5), z.act(2, 3), z.act(1, 4), z.leg(1, 1, 0), z.leg(1, 1, 2)), -1, 1, 0, 50, 6, 90, 16);
    }

    private static void refusedAppeals() {
        Due.says("III", "NONE: nothing happens then");
        BatonZones refused = Due.book(CHANGED);
        BatonZones other = Due.book(CHANGED);
        for (BatonZones z : new BatonZones[] {refused, other}) {
            z.waive(0);
            z.appeal(1, 0, 44);
            z.measure(0, 1, 77, 7);
        }
        int[] answers = Due.of(refused.appeal(-1, 0, 1), refused.appeal(3, 0, 1), refused.appeal(0, 2, 1), refused.appeal(0, -1, 1), refused.appeal(0, 0, -1),
            refused.appeal(0, 0, 10000), refused.appeal(0, 1, 100), refused.appeal(0, 1, -1), refused.appeal(1, 0, 44), refused.appeal(0, 1, 5),
            refused.appeal(0, 0, Due.MAX), refused.appeal(Due.MIN, 0, 1), refused.waive(-1), refused.waive(3), refused.waive(Due.MAX),
            refused.measure(0, 1, 77, 7), refused.measure(0, 1, 19, 7), refused.measure(0, 1, 1000, 7), refused.measure(0, 1, 77, 21),
            refused.measure(0, 1, 77, -21), refused.measure(0, 3, 50, 1), refused.measure(0, 0, 50, 0), refused.measure(0, 4, 50, 0),
            refused.measure(2, 2, 50, 0), refused.measure(3, 1, 50, 0), refused.measure(-1, 1, 50, 0), refused.measure(0, 1, Due.MIN, Due.MAX));
        Due.are(answers, new int[] {-1, -1, -1, -1, -1, -1, -1, -1, -1, -1, -1, -1, -1, -1, -1, -1, -1, -1, -1, -1, -1, -1, -1, -1, -1, -1, -1});
        Due.same(refused, other);
        Due.says(43, "an UNDO that is none changes nothing");
        BatonZones none = Due.book(CHANGED);
        Due.are(Due.of(none.undo(), none.undo()), -1, -1);
        Due.same(none, Due.book(CHANGED));
    }
}
