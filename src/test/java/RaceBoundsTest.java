/** Bounds that the document names: part II of its terms (places, acts, facts, why) and promises 10 to 28. */
public final class RaceBoundsTest {
    /** Ann is at as many DM as there were tenths, to 1500; bob at twice as many, to 1000; cat stays at 0. */
    private static final String STEADY = "track 3 50 10 20 40;team ann 3;team bob 1;team cat 2;"
        + "runs ann 500 0;runs ann 500 0;runs ann 500 0;runs bob 250 0;runs bob 250 0;";
    /** Acts 0 .. 2 were told, 3 and 4 are boxes of ann, 5 and 6 of bob. */
    private static final String ACTS = STEADY + "act drop ann 7 8;act impede bob ann 9 4;act cut cat 30 2;"
        + "rule x drop when size>7;rule y impede when 1=1 excuse size=3;";

    public static void main(String[] args) {
        legsGo();
        legsEvenly();
        legsEnd();
        whole();
        actsOfBoxes();
        sizesOfBoxes();
        factsOfPlaces();
        factsOfOthers();
        factsAgain();
        factsForced();
        factsRank();
        strikes();
        reasons();
        place();
        comes();
        order();
        boldest();
        changes();
        cutIn();
        behind();
        crowd();
        fastest();
        leg();
        legsInBoxes();
        inBox();
        act();
        fact();
        rule();
        holds();
        why();
        struckBy();
        clean();
        free();
        freeByFacts();
        nothingChanges();
        Due.close("II", "10", "11", "12", "13", "14", "15", "16", "17", "18", "19", "20", "21", "22", "23", "24", "25", "26", "27", "28");
    }

    // ---- II: places

    private static void legsGo() {
        Due.says("II", "A TEAM's LEG i goes from the PLACE at which it got the baton (0 in LEG 1) to i times LENGTH and its metres from the line");
        BatonZones least = Due.book("track 3 50 0 0 0;team a 1;runs a 100 -20;runs a 100 20;runs a 100 0;");
        Due.are(Due.of(least.place(0, 0), least.place(0, 1), least.place(0, 99), least.place(0, 100), least.place(0, 101), least.place(0, 199),
            least.place(0, 200), least.place(0, 201), least.place(0, 299), least.place(0, 300)), 0, 3, 297, 300, 309, 1191, 1200, 1203, 1497, 1500);
        // 40 metres less than LENGTH: the shortest way that a leg can go
        BatonZones shortest = Due.book("track 3 50 0 0 0;team a 1;runs a 100 20;runs a 999 -20;runs a 20 0;");
        Due.are(Due.of(shortest.place(0, 100), shortest.place(0, 109), shortest.place(0, 110), shortest.place(0, 1098), shortest.place(0, 1099),
            shortest.place(0, 1100), shortest.place(0, 1119)), 700, 700, 701, 799, 800, 835, 1500);
        BatonZones most = Due.book("track 6 400 0 0 0;team a 1;" + "runs a 999 20;".repeat(5) + "runs a 999 0;");
        Due.are(Due.of(most.place(0, 998), most.place(0, 999), most.place(0, 1998), most.place(0, 4995), most.place(0, 5993), most.place(0, 5994)),
            4195, 4200, 8200, 20200, 23996, 24000);
    }

    private static void legsEvenly() {
        Due.says("II", "behind t of its TENTHS it is at: from, and t times (to less from) by the TENTHS, cut");
        BatonZones z = Due.book("track 2 50 0 0 0;team a 1;runs a 999 0;runs a 999 0;");
        Due.are(Due.of(z.place(0, 1), z.place(0, 2), z.place(0, 3), z.place(0, 997), z.place(0, 998), z.place(0, 999), z.place(0, 1000), z.place(0, 1001),
            z.place(0, 1997), z.place(0, 1998)), 0, 1, 1, 498, 499, 500, 500, 501, 999, 1000);
        BatonZones fast = Due.book("track 2 400 0 0 0;team a 1;runs a 20 20;runs a 21 0;");
        Due.are(Due.of(fast.place(0, 1), fast.place(0, 19), fast.place(0, 20), fast.place(0, 21), fast.place(0, 40), fast.place(0, 41)),
            210, 3990, 4200, 4380, 7819, 8000);
    }

    private static void legsEnd() {
        Due.says("II", "Where a LEG ends the next one begins");
        BatonZones z = Due.book("track 3 50 0 0 0;team a 1;runs a 20 0;runs a 30 0;runs a 50 0;");
        Due.are(Due.of(z.place(0, 19), z.place(0, 20), z.place(0, 21), z.place(0, 49), z.place(0, 50), z.place(0, 51)), 475, 500, 516, 983, 1000, 1010);
        Due.says("II", "Ahead of 0 it is at 0");
        Due.are(Due.of(z.place(0, 0), z.comes(0, 0)), 0, 0);
        Due.says("II", "behind its last LEG it stays");
        Due.are(Due.of(z.place(0, 99), z.place(0, 100), z.place(0, 101), z.place(0, 9999)), 1490, 1500, 1500, 1500);
        BatonZones few = Due.book("track 3 50 0 0 0;team a 1;team b 2;runs a 20 -7;");
        Due.are(Due.of(few.place(0, 19), few.place(0, 20), few.place(0, 21), few.place(0, 9999), few.place(1, 0), few.place(1, 9999)),
            408, 430, 430, 430, 0, 0);
    }

    private static void whole() {
        Due.says("II", "A TEAM is WHOLE, if all LEGS are told; TIME: all its TENTHS");
        for (int legs = 2; legs <= 6; legs++) {
            String text = "track " + legs + " 50 0 0 0;team a 1;";
            Due.are(Due.of(Due.book(text).team(0, 3), Due.book(text).who(4)), 0, 0);
            for (int told = 1; told <= legs; told++) {
                BatonZones z = Due.book(text + "runs a 999 0;".repeat(told));
                Due.are(Due.of(z.team(0, 3), z.who(4), z.team(0, 2)), told == legs ? 1 : 0, told == legs ? 1 : 0, 999 * told);
            }
        }
    }

    // ---- II: acts

    private static void actsOfBoxes() {
        Due.says("II", "ACTS are those told, and behind these, TEAM by TEAM, LEG by LEG, for each LEG that was told but the last of all LEGS one of KIND box");
        for (int legs = 2; legs <= 6; legs++) {
            for (int told = 0; told <= legs; told++) {
                BatonZones z = Due.book("track " + legs + " 50 0 0 0;team a 1;" + "runs a 20 0;".repeat(told) + "act drop a 5 5;");
                Due.are(Due.of(z.about(6), z.about(7)), 1 + Math.min(told, legs - 1), 1);
            }
        }
        BatonZones z = Due.book("track 3 50 0 0 0;team a 2;team b 1;runs b 21 0;runs a 22 0;runs b 23 0;act lane b 9 9;runs a 24 0;runs b 25 0;");
        Due.all(0, 5, a -> z.act(a, 0), 1, 4, 4, 4, 4, Due.NO);
        Due.all(0, 5, a -> z.act(a, 1), 1, 0, 0, 1, 1, Due.NO);
        Due.says("II", "box: its TENTH that at which the LEG ends, no OTHER");
        Due.all(0, 5, a -> z.act(a, 3), 9, 22, 46, 21, 44, Due.NO);
        Due.all(0, 5, a -> z.act(a, 2), -1, -1, -1, -1, -1, Due.NO);
        Due.all(0, 4, a -> z.fact(a, 5), 0, 0, 0, 0, 0);
    }

    /** The size of the box of a baton that is passed on at so many metres. */
    private static int boxSize(int before, int after, int metres) {
        return Due.book("track 2 50 " + before + " " + after + " 0;team a 1;runs a 20 " + metres + ";").act(0, 4);
    }

    private static void sizesOfBoxes() {
        Due.says("II", "its SIZE by how many metres it passes the baton outside of the BOX (from BEFORE metres ahead of the line)");
        Due.are(Due.of(boxSize(10, 15, -9), boxSize(10, 15, -10), boxSize(10, 15, -11), boxSize(10, 15, -12), boxSize(10, 15, -20)), 0, 0, 1, 2, 10);
        Due.are(Due.of(boxSize(0, 15, 0), boxSize(0, 15, -1), boxSize(0, 15, -20), boxSize(20, 0, -20), boxSize(19, 0, -20)), 0, 1, 20, 0, 1);
        Due.says("II", "to AFTER behind it; 0: inside");
        Due.are(Due.of(boxSize(10, 15, 14), boxSize(10, 15, 15), boxSize(10, 15, 16), boxSize(10, 15, 17), boxSize(10, 15, 20)), 0, 0, 1, 2, 5);
        Due.are(Due.of(boxSize(15, 0, 0), boxSize(15, 0, 1), boxSize(15, 0, 20), boxSize(0, 20, 20), boxSize(0, 19, 20)), 0, 1, 20, 0, 1);
    }

    // ---- II: facts

    /** A fact of an act of ann (place = tenth) at a tenth. */
    private static int factAt(int k, int tenth) {
        return Due.book(STEADY + "act drop ann " + tenth + " 0;").fact(0, k);
    }

    private static void factsOfPlaces() {
        Due.says("II", "FACTS tenth, size: its own");
        BatonZones z = Due.book(STEADY + "act drop ann 0 0;act cut cat 9999 99;");
        Due.are(Due.of(z.fact(0, 0), z.fact(0, 1), z.fact(1, 0), z.fact(1, 1), z.fact(2, 0), z.fact(2, 1)), 0, 0, 9999, 99, 500, 0);
        Due.says("II", "leg: which LEG the TEAM is in at the TENTH (the earlier one where one ends)");
        Due.are(Due.of(factAt(2, 0), factAt(2, 1), factAt(2, 499), factAt(2, 500), factAt(2, 501), factAt(2, 999), factAt(2, 1000), factAt(2, 1001)),
            1, 1, 1, 1, 2, 2, 2, 3);
        Due.says("II", "leg: the last one told behind all");
        Due.are(Due.of(factAt(2, 1499), factAt(2, 1500), factAt(2, 1501), factAt(2, 9999)), 3, 3, 3, 3);
        BatonZones few = Due.book(STEADY + "act drop bob 500 0;act drop bob 501 0;act drop bob 9999 0;act drop bob 250 0;act drop bob 251 0;");
        Due.all(0, 4, a -> few.fact(a, 2), 2, 2, 2, 1, 2);
        BatonZones one = Due.book("track 6 50 0 0 0;team a 1;runs a 20 0;act drop a 20 0;act drop a 21 0;");
        Due.all(0, 1, a -> one.fact(a, 2), 1, 1);
        Due.says("II", "leg: 1 if none is told");
        BatonZones none = Due.book(STEADY + "act drop cat 0 0;act drop cat 9999 0;");
        Due.all(0, 1, a -> none.fact(a, 2), 1, 1);
        Due.says("II", "place: its PLACE then in metres, cut");
        Due.are(Due.of(factAt(3, 0), factAt(3, 9), factAt(3, 10), factAt(3, 19), factAt(3, 20), factAt(3, 1499), factAt(3, 1500), factAt(3, 9999)),
            0, 0, 1, 1, 2, 149, 150, 150);
        Due.says("II", "cut: LENGTH and CUT less place");
        Due.are(Due.of(factAt(7, 0), factAt(7, 9), factAt(7, 10), factAt(7, 899), factAt(7, 900), factAt(7, 909), factAt(7, 910), factAt(7, 9999)),
            90, 90, 89, 1, 0, 0, -1, -60);
        Due.says("II", "cut: 0 if CUT is 0");
        for (int cut = 0; cut <= 2; cut++) {
            BatonZones c = Due.book("track 2 50 0 0 " + cut + ";team a 1;act drop a 0 0;runs a 20 0;act drop a 20 0;");
            Due.are(Due.of(c.fact(0, 7), c.fact(1, 7)), cut == 0 ? 0 : 50 + cut, cut);
        }
    }

    private static void factsOfOthers() {
        Due.says("II", "lane: its LANE. other: that of the OTHER, 0 without");
        BatonZones z = Due.book(STEADY + "act impede ann bob 100 0;act impede bob ann 100 0;act drop ann 100 0;act impede cat bob 100 0;act lane bob 1 1;");
        Due.all(0, 4, a -> z.fact(a, 4), 3, 1, 3, 2, 1);
        Due.all(0, 6, a -> z.fact(a, 5), 1, 3, 0, 1, 0, 0, 0);
        Due.says("II", "ahead: PLACE of the TEAM less that of the OTHER then (DM), 0 without");
        Due.all(0, 6, a -> z.fact(a, 6), -100, 100, 0, -200, 0, 0, 0);
        BatonZones then = Due.book(STEADY + "act impede ann bob 0 0;act impede ann bob 1 0;act impede ann bob 999 0;act impede ann bob 1000 0;"
            + "act impede ann bob 1001 0;act impede ann bob 9999 0;act impede bob ann 9999 0;");
        Due.all(0, 6, a -> then.fact(a, 6), 0, -1, -1, 0, 1, 500, -500);
    }

    private static void factsAgain() {
        Due.says("II", "again: how many ACTS there are of its KIND by its TEAM that come ahead of it (by TENTH, then by number)");
        BatonZones z = Due.book(STEADY + "act drop ann 50 0;act drop ann 50 0;act drop ann 49 0;act drop ann 51 0;act lane ann 1 0;act drop bob 1 0;"
            + "act impede ann bob 1 0;act impede bob ann 1 0;");
        Due.all(0, 7, a -> z.fact(a, 8), 1, 2, 0, 3, 0, 0, 0, 0);
        // boxes of ann, then of bob
        Due.all(8, 11, a -> z.fact(a, 8), 0, 1, 0, 1);
        BatonZones many = Due.book("track 6 50 0 0 0;team a 1;" + "runs a 20 0;".repeat(6) + "act cut a 5 0;".repeat(12));
        Due.all(0, 16, a -> many.fact(a, 8), 0, 1, 2, 3, 4, 5, 6, 7, 8, 9, 10, 11, 0, 1, 2, 3, 4);
        Due.says("II", "again: WAIVED ACTS count in none of these");
        z.waive(2);
        Due.all(0, 3, a -> z.fact(a, 8), 0, 1, 0, 2);
        z.waive(0);
        Due.all(0, 3, a -> z.fact(a, 8), 0, 0, 0, 1);
        z.waive(2);
        Due.all(0, 3, a -> z.fact(a, 8), 1, 1, 0, 2);
    }

    private static void factsForced() {
        Due.says("II", "forced: how many ACTS impede there are whose OTHER is the TEAM, of a TENTH from 20 ahead of its own to its own");
        int[] due = {0, 1, 1, 1, 1, 0};
        int[] tenths = {79, 80, 81, 99, 100, 101};
        for (int i = 0; i < due.length; i++) {
            String act = "act impede bob ann " + tenths[i] + " 0;";
            // whichever of the two acts has the lesser number
            Due.is(Due.book(STEADY + "act drop ann 100 0;" + act).fact(0, 9), due[i]);
            Due.is(Due.book(STEADY + act + "act drop ann 100 0;").fact(1, 9), due[i]);
            Due.is(Due.book(STEADY + act.replace("bob ann", "bob cat") + "act drop ann 100 0;").fact(1, 9), 0);
            Due.is(Due.book(STEADY + act.replace("impede bob ann", "lane ann") + "act drop ann 100 0;").fact(1, 9), 0);
        }
        BatonZones z = Due.book(STEADY + "act impede bob ann 480 0;act impede cat ann 500 0;act impede ann bob 500 0;act impede bob ann 500 0;");
        // those of ann against bob, those against ann; boxes of ann at 500 and of bob at 250, 500
        Due.all(0, 7, a -> z.fact(a, 9), 0, 0, 3, 1, 3, 0, 0, 1);
        BatonZones first = Due.book(STEADY + "act drop ann 19 0;act drop ann 20 0;act drop ann 21 0;act impede bob ann 0 0;");
        Due.all(0, 2, a -> first.fact(a, 9), 1, 1, 0);
        BatonZones many = Due.book(STEADY + "act impede bob ann 1 0;".repeat(11) + "act drop ann 1 0;");
        Due.is(many.fact(11, 9), 11);
        Due.says("II", "forced: WAIVED ACTS count in none of these");
        z.waive(3);
        Due.all(0, 4, a -> z.fact(a, 9), 0, 0, 2, 1, 2);
        z.waive(0);
        z.waive(1);
        Due.all(0, 4, a -> z.fact(a, 9), 0, 0, 0, 1, 0);
        z.waive(3);
        Due.is(z.fact(2, 9), 1);
    }

    private static void factsRank() {
        Due.says("II", "rank: 1 and how many TEAMS are farther than it then");
        BatonZones z = Due.book(STEADY + "act drop ann 0 0;act drop ann 1 0;act drop ann 999 0;act drop ann 1000 0;act drop bob 1000 0;act drop bob 1001 0;"
            + "act drop cat 0 0;act drop cat 1 0;");
        Due.all(0, 7, a -> z.fact(a, 10), 1, 2, 2, 1, 1, 2, 1, 3);
        String six = "track 2 50 0 0 0;team a 1;team b 2;team c 3;team d 4;team e 5;team f 6;";
        BatonZones last = Due.book(six + "runs a 20 0;runs b 20 1;runs c 20 2;runs d 20 3;runs e 20 4;act drop f 20 0;act drop a 20 0;act drop e 20 0;");
        Due.all(0, 2, a -> last.fact(a, 10), 6, 5, 1);
    }

    // ---- II: struck, why

    private static void strikes() {
        Due.says("II", "An ACT is STRUCK by a RULE of its KIND");
        String[] kinds = {"drop", "lane", "cut", "impede", "box"};
        StringBuilder rules = new StringBuilder(STEADY + "act drop ann 7 8;act lane ann 7 8;act cut ann 7 8;act impede ann bob 7 8;");
        for (String kind : kinds) {
            rules.append("rule x").append(kind).append(' ').append(kind).append(" when 1=1;");
        }
        BatonZones z = Due.book(rules.toString());
        for (int act = 0; act < 5; act++) {
            for (int rule = 0; rule < 5; rule++) {
                Due.is(z.struckBy(act, rule), act == rule ? 1 : 0);
                Due.is(z.holds(rule, 0, act), 1);
            }
        }
        Due.says("II", "if when holds, and excuse does not (or there is none)");
        BatonZones e = Due.book(STEADY + "act drop ann 7 8;rule a drop when 1=1 excuse 1=1;rule b drop when 1=1 excuse 1=2;rule c drop when 1=2 excuse 1=1;"
            + "rule d drop when 1=2 excuse 1=2;rule e drop when 1=1;rule f drop when 1=2;");
        Due.all(0, 5, r -> e.struckBy(0, r), 0, 1, 0, 0, 1, 0);
        Due.says("II", "a WAIVED one never is");
        z.waive(1);
        Due.are(Due.of(z.struckBy(0, 0), z.struckBy(1, 1), z.struckBy(2, 2), z.holds(1, 0, 1)), 1, 0, 1, 1);
        Due.says("II", "A TEAM is STRUCK, if some ACT of it is by some RULE");
        BatonZones t = Due.book(ACTS + "rule o box when tenth=250;");
        Due.is(t.who(0), 3);
        t.waive(0);
        Due.is(t.who(0), 2);
        t.waive(1);
        Due.is(t.who(0), 2);
        BatonZones noBox = Due.book(ACTS);
        noBox.waive(0);
        noBox.waive(1);
        Due.is(noBox.who(0), 0);
    }

    /** Which comparisons tell whether a condition holds. */
    private static void reason(String condition, int... want) {
        BatonZones z = Due.book("track 2 50 0 0 0;team a 1;act drop a 1 1;rule r drop when " + condition + ";rule s drop when 2=2 excuse " + condition + ";");
        int[] got = new int[want.length];
        int[] excused = new int[want.length];
        for (int i = 0; i < want.length; i++) {
            got[i] = z.why(0, 0, 0, i);
            excused[i] = z.why(1, 1, 0, i);
        }
        Due.are(got, want);
        Due.are(excused, want);
        Due.are(Due.of(z.why(0, 0, 0, -1), z.why(0, 0, 0, want.length), z.why(0, 0, 0, want.length + 1)), want.length, -1, -1);
    }

    private static void reasons() {
        Due.says("II", "WHY: of a COMPARISON itself");
        reason("1=1", 0);
        reason("1=2", 0);
        reason("((1=2))", 0);
        Due.says("II", "WHY: of not: of what is behind it");
        reason("not 1=1", 0);
        reason("not not 1=2", 0);
        reason("not (1=1 and 1=2)", 1);
        reason("not (1=2 or 2=2)", 1);
        reason("not (1=1 and 2=2)", 0, 1);
        reason("not (1=2 or 1=3)", 0, 1);
        Due.says("II", "WHY: of an or that holds: of one of its sides that is so, the fewer");
        reason("1=2 or 2=2", 1);
        reason("1=1 or 1=2", 0);
        reason("1=1 and 1=1 or 2=2", 2);
        reason("2=2 or 1=1 and 1=1", 0);
        reason("1=1 and 1=1 or 1=2", 0, 1);
        reason("1=2 or 1=1 and 1=1", 1, 2);
        reason("1=1 and 1=1 and 1=1 or 1=1 and 1=1 or 1=2 and 1=2", 3, 4);
        Due.says("II", "WHY: of an and that does not: of one of its sides that is so, the fewer");
        reason("1=1 and 1=3", 1);
        reason("1=3 and 1=1", 0);
        reason("(1=2 or 1=3) and 1=4", 2);
        reason("1=4 and (1=2 or 1=3)", 0);
        reason("(1=2 or 1=3) and 1=1", 0, 1);
        reason("1=1 and (1=2 or 1=3)", 1, 2);
        Due.says("II", "WHY: of like ones the left one");
        reason("1=1 or 2=2", 0);
        reason("1=2 and 1=3", 0);
        reason("1=2 or 1=1 or 2=2", 1);
        reason("1=1 and 1=2 and 1=3", 1);
        reason("1=1 and 1=1 or 2=2 and 2=2", 0, 1);
        reason("(1=2 or 1=3) and (1=4 or 1=5)", 0, 1);
        reason("1=1 and (1=1 or 2=2) and (2=2 or 1=1)", 0, 1, 3);
        // a side counts by its own fewest
        reason("(1=1 or 2=2 and 2=2) or 3=3", 0);
        reason("(2=2 and 2=2 or 1=1) or 3=3", 2);
        reason("(1=2 and (1=3 or 1=4)) and 1=5", 0);
        reason("3=3 and 4=4 or (1=1 and 2=2 and 5=5 or 6=6)", 5);
        Due.says("II", "WHY: else of both");
        reason("1=1 and 2=2", 0, 1);
        reason("1=2 or 1=3", 0, 1);
        reason("1=1 and 2=2 and 3=3", 0, 1, 2);
        reason("1=2 or 1=3 or not 1=1 or not (1=1 or 1=2)", 0, 1, 2, 3);
        reason("1=1 and 1=1 and (1=1 and (1=1 and 1=1))", 0, 1, 2, 3, 4);
        Due.says("II", "WHY: a COMPARISON that is beyond 32 bits does not hold");
        reason("4096*4096*4096=0 or 1=1", 1);
        reason("1=1 and not 4096*4096*4096=0", 0, 1);
        reason("1=1 and 4096*4096*4096=4096*4096*4096", 1);
    }

    // ---- 10, 11

    private static void place() {
        BatonZones z = Due.book(STEADY);
        Due.says(10, "PLACE of a TEAM at a TENTH (DM)");
        Due.are(Due.of(z.place(0, 0), z.place(0, 1), z.place(0, 1499), z.place(0, 1500), z.place(0, 1501), z.place(1, 500), z.place(1, 501), z.place(2, 700)),
            0, 1, 1499, 1500, 1500, 1000, 1000, 0);
        Due.says(10, "NONE: there is no such TEAM");
        Due.edges(0, 2, -1, t -> z.place(t, 5));
        Due.says(10, "NONE: there is no such TENTH (0 .. 9999)");
        Due.edges(0, 9999, -1, i -> z.place(0, i));
        Due.edges(0, 9999, -1, i -> z.place(2, i));
    }

    private static void comes() {
        BatonZones z = Due.book(STEADY);
        Due.says(11, "The first TENTH at which a TEAM is at a PLACE or behind it");
        for (int p : new int[] {0, 1, 2, 499, 500, 501, 999, 1000, 1001, 1499, 1500}) {
            Due.is(z.comes(0, p), p);
        }
        Due.are(Due.of(z.comes(1, 1), z.comes(1, 2), z.comes(1, 3), z.comes(1, 999), z.comes(1, 1000)), 1, 1, 2, 500, 500);
        // places are cut: 499 DM of 500 in 999 tenths are come to at 998, where it is at 499.5
        BatonZones slow = Due.book("track 2 50 0 0 0;team a 1;runs a 999 0;runs a 998 0;");
        Due.are(Due.of(slow.comes(0, 1), slow.comes(0, 2), slow.comes(0, 499), slow.comes(0, 500), slow.comes(0, 501), slow.comes(0, 1000)),
            2, 4, 998, 999, 1001, 1997);
        Due.says(11, "-2: at none");
        Due.are(Due.of(z.comes(0, 1501), z.comes(0, Due.MAX), z.comes(1, 1001), z.comes(2, 1), z.comes(2, Due.MAX)), -2, -2, -2, -2, -2);
        Due.says(11, "a PLACE (DM, 0 ..)");
        Due.are(Due.of(z.comes(0, 0), z.comes(1, 0), z.comes(2, 0)), 0, 0, 0);
        Due.from(0, -1, p -> z.comes(0, p));
        Due.from(0, -1, p -> z.comes(2, p));
        Due.says(11, "NONE: there is no such TEAM");
        Due.edges(0, 2, -1, t -> z.comes(t, 0));
    }

    // ---- 12, 13, 14

    private static void order() {
        BatonZones z = Due.book(STEADY);
        Due.says(12, "The k-th (0 ..) at a TENTH: TEAMS by PLACE, the farthest first");
        Due.all(0, 2, k -> z.order(1, k), 1, 0, 2);
        Due.all(0, 2, k -> z.order(999, k), 1, 0, 2);
        Due.all(0, 2, k -> z.order(1001, k), 0, 1, 2);
        Due.all(0, 2, k -> z.order(9999, k), 0, 1, 2);
        Due.says(12, "of like ones by LANE");
        Due.all(0, 2, k -> z.order(0, k), 1, 2, 0);
        Due.all(0, 2, k -> z.order(1000, k), 1, 0, 2);
        BatonZones six = Due.book("track 2 50 0 0 0;team a 9;team b 1;team c 8;team d 2;team e 7;team f 3;");
        Due.all(0, 6, k -> six.order(77, k), 1, 3, 5, 4, 2, 0, -1);
        BatonZones apart = Due.book("track 2 50 0 0 0;team a 1;team b 2;team c 3;team d 4;team e 5;team f 6;runs a 20 0;runs b 20 1;runs c 20 2;runs d 20 3;"
            + "runs e 20 4;runs f 20 5;");
        Due.all(0, 5, k -> apart.order(20, k), 5, 4, 3, 2, 1, 0);
        Due.all(0, 5, k -> apart.order(0, k), 0, 1, 2, 3, 4, 5);
        Due.says(12, "NONE, too, if there are not so many");
        Due.edges(0, 2, -1, k -> z.order(5, k));
        Due.is(Due.book("track 2 50 0 0 0;").order(0, 0), -1);
        Due.says(12, "NONE: there is no such TENTH (0 .. 9999)");
        Due.edges(0, 9999, -1, i -> z.order(i, 0));
    }

    private static void boldest() {
        BatonZones z = Due.book(STEADY);
        Due.says(13, "The TENTH (0 .. 9999) at which a TEAM's PLACE is by the most ahead of all others'");
        Due.all(0, 2, z::boldest, 1500, 500, 0);
        // 5994: the last tenth at which a team can run
        BatonZones last = Due.book("track 6 50 0 0 0;team a 1;team b 2;" + "runs a 999 0;".repeat(6));
        Due.all(0, 1, last::boldest, 5994, 0);
        Due.says(13, "(the first such)");
        // ahead by 250 at 50, alike at 100; by 250 at 150, alike at 200
        BatonZones twice = Due.book("track 3 50 0 0 0;team a 1;team b 2;runs a 50 0;runs a 100 0;runs a 50 0;runs b 100 0;runs b 100 0;");
        Due.all(0, 1, twice::boldest, 200, 0);
        BatonZones alike = Due.book("track 2 50 0 0 0;team a 1;team b 2;runs a 50 0;runs a 150 0;runs b 100 0;runs b 100 0;");
        Due.all(0, 1, alike::boldest, 50, 0);
        BatonZones same = Due.book("track 2 50 0 0 0;team a 1;team b 2;");
        Due.all(0, 1, same::boldest, 0, 0);
        // one ahead from the first tenth on
        BatonZones one = Due.book("track 2 290 0 0 0;team a 1;team b 2;runs a 950 -5;runs b 997 9;");
        Due.all(0, 1, one::boldest, 1, 997);
        Due.says(13, "ahead of all others': of the farthest of these");
        BatonZones three = Due.book("track 2 50 0 0 0;team a 1;team b 2;team c 3;runs a 100 0;runs b 50 0;runs c 25 0;runs c 999 0;runs a 20 0;");
        Due.all(0, 2, three::boldest, 120, 0, 25);
        Due.says(13, "-2: it has no others");
        BatonZones alone = Due.book("track 2 50 0 0 0;team a 1;runs a 20 0;");
        Due.all(-1, 1, alone::boldest, -1, -2, -1);
        Due.says(13, "NONE: there is no such TEAM");
        Due.edges(0, 2, -1, z::boldest);
        Due.edges(0, 0, -1, alone::boldest);
    }

    private static void changes() {
        BatonZones z = Due.book(STEADY);
        Due.says(14, "How often one of two TEAMS that was behind comes to be ahead of the other one");
        Due.are(Due.of(z.changes(0, 1), z.changes(1, 0), z.changes(0, 2), z.changes(2, 1)), 1, 1, 0, 0);
        // a and b at 250: b ahead, at 334 a, at 520 b, at 600 and some a
        BatonZones often = Due.book("track 6 50 0 0 0;team a 1;team b 2;runs a 100 0;runs a 200 0;runs a 100 0;runs a 200 0;runs a 100 0;runs a 200 0;"
            + "runs b 200 0;runs b 50 0;runs b 250 0;runs b 20 0;runs b 999 0;runs b 20 0;");
        Due.are(Due.of(often.changes(0, 1), often.changes(1, 0)), 4, 4);
        Due.says(14, "TENTHS at which they are alike are passed over");
        BatonZones alike = Due.book("track 6 50 0 0 0;team a 1;team b 2;runs a 100 0;runs a 200 0;runs a 100 0;runs a 200 0;runs a 100 0;runs a 200 0;"
            + "runs b 200 0;runs b 100 0;runs b 200 0;runs b 100 0;runs b 200 0;runs b 100 0;");
        Due.are(Due.of(alike.place(0, 300), alike.place(1, 300), alike.changes(0, 1), alike.changes(1, 0)), 1000, 1000, 0, 0);
        BatonZones cross = Due.book("track 2 50 0 0 0;team a 1;team b 2;runs a 100 0;runs a 300 0;runs b 200 0;runs b 150 0;");
        Due.are(Due.of(cross.place(0, 300), cross.place(1, 300), cross.changes(0, 1), cross.changes(1, 0)), 833, 833, 1, 1);
        BatonZones never = Due.book("track 2 50 0 0 0;team a 1;team b 2;");
        Due.is(never.changes(0, 1), 0);
        Due.says(14, "from one TENTH to the next (0 to 9999)");
        // b comes ahead at its last tenth alone
        BatonZones late = Due.book("track 2 50 0 0 0;team a 1;team b 2;runs a 20 19;runs b 25 20;");
        Due.are(Due.of(late.place(1, 24), late.place(0, 24), late.changes(0, 1)), 672, 690, 1);
        // at 0 they are alike: to come ahead of it is none
        Due.is(Due.book("track 2 50 0 0 0;team a 1;team b 2;runs a 20 0;").changes(1, 0), 0);
        Due.says(14, "NONE, too, if they are one");
        Due.are(Due.of(z.changes(0, 0), z.changes(1, 1), z.changes(2, 2), z.changes(3, 3), z.changes(-1, -1)), -1, -1, -1, -1, -1);
        Due.says(14, "NONE: there is no such TEAM");
        Due.edges(1, 2, -1, t -> z.changes(t, 0));
        Due.edges(0, 1, -1, t -> z.changes(2, t));
    }

    // ---- 15, 16

    /** Who comes to a cut behind the first line, passed at so many metres by a team with one leg. */
    private static int comesToCut(int cut, int metres) {
        return Due.book("track 3 50 0 0 " + cut + ";team a 1;runs a 20 " + metres + ";").cutIn(0);
    }

    private static void cutIn() {
        BatonZones z = Due.book(STEADY);
        Due.says(15, "Of TEAMS that come to CUT (LENGTH and CUT), by when they come (comes()): the k-th (0 ..)");
        Due.all(0, 2, z::cutIn, 1, 0, -1);
        Due.are(Due.of(comesToCut(1, 1), comesToCut(20, 20), comesToCut(1, 0), comesToCut(20, 19), comesToCut(21, 20), comesToCut(50, 20)),
            0, 0, -1, -1, -1, -1);
        BatonZones end = Due.book("track 2 50 0 0 50;team a 1;runs a 20 0;runs a 20 0;");
        Due.is(end.cutIn(0), 0);
        Due.says(15, "where CUT is not 0");
        Due.are(Due.of(comesToCut(0, 0), comesToCut(0, 20)), -1, -1);
        BatonZones none = Due.book(STEADY.replace("10 20 40", "10 20 0"));
        Due.all(-1, 2, none::cutIn, -1, -1, -1, -1);
        Due.says(15, "of like ones by LANE");
        BatonZones six = Due.book("track 2 50 0 0 1;team a 9;team b 1;team c 8;team d 2;team e 7;team f 3;runs a 20 9;runs b 20 9;runs c 20 9;runs d 20 9;"
            + "runs e 20 9;runs f 20 9;");
        Due.all(0, 6, six::cutIn, 1, 3, 5, 4, 2, 0, -1);
        // 510 DM: of 520 in 51 tenths at 51 (50.02), of 510 in 51 at 51
        BatonZones cut = Due.book("track 2 50 0 0 1;team a 9;team b 1;runs a 51 2;runs b 51 1;");
        Due.are(Due.of(cut.comes(0, 510), cut.comes(1, 510), cut.cutIn(0)), 51, 51, 1);
        Due.says(15, "NONE if there are not so many");
        Due.edges(0, 1, -1, z::cutIn);
    }

    private static void behind() {
        BatonZones z = Due.book(STEADY);
        Due.says(16, "How many TENTHS later than the first of all TEAMS that come to it a TEAM comes to the line of a LEG (LEG times LENGTH)");
        Due.all(1, 3, leg -> z.behind(0, leg), 250, 500, 0);
        Due.all(1, 3, leg -> z.behind(1, leg), 0, 0, -2);
        // each of the teams as the first of all
        for (int first = 0; first < 3; first++) {
            String text = "track 2 50 0 0 0;team a 1;team b 2;team c 3;";
            for (int t = 0; t < 3; t++) {
                text += "runs " + "abc".charAt(t) + (t == first ? " 30 0;" : " 37 0;");
            }
            BatonZones three = Due.book(text);
            Due.are(Due.of(three.behind(0, 1), three.behind(1, 1), three.behind(2, 1)), first == 0 ? 0 : 7, first == 1 ? 0 : 7, first == 2 ? 0 : 7);
        }
        // the baton is passed behind the line, ahead of it, at it
        BatonZones lines = Due.book("track 3 50 0 0 0;team a 1;team b 2;team c 3;runs a 70 20;runs b 30 -20;runs b 40 0;runs c 50 0;");
        Due.are(Due.of(lines.comes(0, 500), lines.comes(1, 500), lines.comes(2, 500)), 50, 42, 50);
        Due.are(Due.of(lines.behind(0, 1), lines.behind(1, 1), lines.behind(2, 1)), 8, 0, 8);
        Due.says(16, "-2: it does not come there");
        Due.all(1, 3, leg -> z.behind(2, leg), -2, -2, -2);
        BatonZones ahead = Due.book("track 2 50 0 0 0;team a 1;runs a 20 -1;team b 2;runs b 20 0;");
        Due.are(Due.of(ahead.behind(0, 1), ahead.behind(1, 1), ahead.behind(0, 2), ahead.behind(1, 2)), -2, 0, -2, -2);
        Due.says(16, "NONE if there is no such TEAM");
        Due.edges(0, 2, -1, t -> z.behind(t, 1));
        Due.says(16, "NONE if there is no such LEG (1 .. LEGS)");
        Due.edges(1, 3, -1, leg -> z.behind(0, leg));
        Due.edges(1, 2, -1, leg -> ahead.behind(0, leg));
    }

    // ---- 17, 18

    private static void crowd() {
        BatonZones z = Due.book(STEADY);
        Due.says(17, "The most TEAMS whose PLACES lie within so many DM (0 ..) of one another (the farthest less the nearest of these)");
        Due.are(Due.of(z.crowd(100, 0), z.crowd(100, 99), z.crowd(100, 100), z.crowd(100, 101), z.crowd(100, 199), z.crowd(100, 200), z.crowd(100, Due.MAX)),
            1, 1, 2, 2, 2, 3, 3);
        Due.are(Due.of(z.crowd(0, 0), z.crowd(1000, 0), z.crowd(1001, 0), z.crowd(1001, 1), z.crowd(9999, 499), z.crowd(9999, 500)), 3, 2, 1, 2, 1, 2);
        Due.says(17, "The most TEAMS: none, one");
        Due.are(Due.of(Due.book("track 2 50 0 0 0;").crowd(0, 0), Due.book("track 2 50 0 0 0;team a 1;").crowd(0, 0)), 0, 1);
        Due.says(17, "NONE for others: so many DM (0 ..)");
        Due.from(0, -1, within -> z.crowd(5, within));
        Due.says(17, "NONE for others: a TENTH (0 .. 9999)");
        Due.edges(0, 9999, -1, i -> z.crowd(i, 0));
        Due.edges(0, 9999, -1, i -> new BatonZones().crowd(i, 0));
    }

    private static void fastest() {
        BatonZones z = Due.book(STEADY);
        Due.says(18, "the TEAM with the fewest TENTHS of all to which it was told (what 0), these (1); the sum of its TENTHS of all (2)");
        Due.all(0, 2, i -> z.fastest(1, i), 1, 250, 750);
        Due.all(0, 2, i -> z.fastest(2, i), 1, 250, 750);
        Due.all(0, 2, i -> z.fastest(3, i), 0, 500, 500);
        BatonZones most = Due.book("track 2 50 0 0 0;team a 1;team b 2;team c 3;team d 4;team e 5;team f 6;runs a 999 0;runs b 999 0;runs c 999 0;"
            + "runs d 999 0;runs e 999 0;runs f 998 0;");
        Due.all(0, 2, i -> most.fastest(1, i), 5, 998, 5993);
        BatonZones sixth = Due.book("track 3 50 0 0 0;team a 1;team b 2;team c 3;team d 4;team e 5;team f 6;runs a 30 0;runs f 31 0;runs f 40 0;runs a 41 0;"
            + "runs f 50 0;");
        Due.are(Due.of(sixth.fastest(1, 0), sixth.fastest(1, 2), sixth.fastest(2, 0), sixth.fastest(2, 2), sixth.fastest(3, 0), sixth.fastest(3, 1)),
            0, 61, 5, 81, 5, 50);
        Due.says(18, "of like ones that of the lowest LANE");
        BatonZones alike = Due.book("track 2 50 0 0 0;team a 9;team b 3;team c 8;team d 1;runs a 40 0;runs b 40 0;runs c 40 0;runs d 41 0;");
        Due.all(0, 2, i -> alike.fastest(1, i), 1, 40, 161);
        Due.says(18, "NONE if there is none such: told to none");
        Due.all(-1, 3, i -> alike.fastest(2, i), -1, -1, -1, -1, -1);
        Due.says(18, "NONE if there is none such: LEG (1 .. LEGS)");
        Due.edges(1, 3, -1, leg -> z.fastest(leg, 0));
        Due.edges(1, 3, -1, leg -> z.fastest(leg, 2));
        Due.says(18, "NONE for another what");
        Due.edges(0, 2, -1, i -> z.fastest(1, i));
    }

    // ---- 19, 20

    private static void leg() {
        BatonZones z = Due.book("track 3 50 10 15 0;team a 1;team b 2;runs a 20 -20;runs a 999 20;runs a 31 0;runs b 44 7;");
        Due.says(19, "what 0: its TENTHS, 1: the TENTH at which it ends, 2: its metres from the line");
        Due.all(0, 2, i -> z.leg(0, 1, i), 20, 20, -20);
        Due.all(0, 2, i -> z.leg(0, 2, i), 999, 1019, 20);
        Due.all(0, 2, i -> z.leg(0, 3, i), 31, 1050, 0);
        Due.all(0, 2, i -> z.leg(1, 1, i), 44, 44, 7);
        Due.says(19, "NONE: no such LEG told, from 1 on");
        Due.edges(1, 3, -1, leg -> z.leg(0, leg, 0));
        Due.edges(1, 1, -1, leg -> z.leg(1, leg, 0));
        Due.says(19, "NONE: there is no such TEAM");
        Due.edges(0, 1, -1, t -> z.leg(t, 1, 0));
        BatonZones none = Due.book("track 3 50 10 15 0;team a 1;");
        Due.all(0, 4, i -> none.leg(0, 1, i), -1, -1, -1, -1, -1);
        Due.says(19, "NONE, too, for another what");
        Due.edges(0, 4, -1, i -> z.leg(0, 2, i));
    }

    /** How many DM of leg 1 lie in the box of its line, of leg 2 in that box, of leg 2 in its own, of leg 3 in that one. */
    private static int[] inBoxes(int before, int after, int first, int second) {
        BatonZones z = Due.book("track 3 50 " + before + " " + after + " 0;team a 1;runs a 100 " + first + ";runs a 100 " + second + ";runs a 100 0;");
        return Due.of(z.leg(0, 1, 4), z.leg(0, 2, 3), z.leg(0, 2, 4), z.leg(0, 3, 3));
    }

    private static void legsInBoxes() {
        Due.says(19, "3: how many DM of it lie in the BOX of the line ahead (that of the LEG ahead), 4: in the BOX of its own line");
        Due.are(inBoxes(10, 15, -20, 20), 0, 250, 250, 0);
        Due.are(inBoxes(10, 15, -11, 16), 0, 250, 250, 0);
        Due.are(inBoxes(10, 15, -10, 15), 0, 250, 250, 0);
        Due.are(inBoxes(10, 15, -9, 14), 10, 240, 240, 10);
        Due.are(inBoxes(10, 15, 0, 0), 100, 150, 100, 150);
        Due.are(inBoxes(10, 15, 14, -9), 240, 10, 10, 240);
        Due.are(inBoxes(10, 15, 15, -10), 250, 0, 0, 250);
        Due.are(inBoxes(10, 15, 16, -11), 250, 0, 0, 250);
        Due.are(inBoxes(20, 20, 20, -20), 400, 0, 0, 400);
        Due.are(inBoxes(20, 20, -20, 20), 0, 400, 400, 0);
        Due.are(inBoxes(0, 0, 0, 0), 0, 0, 0, 0);
        Due.are(inBoxes(0, 0, -5, 5), 0, 0, 0, 0);
        Due.says(19, "0 for LEG 1, 0 for the last of all LEGS");
        BatonZones z = Due.book("track 3 50 20 20 0;team a 1;runs a 100 20;runs a 100 20;runs a 100 0;");
        Due.are(Due.of(z.leg(0, 1, 3), z.leg(0, 1, 4), z.leg(0, 3, 3), z.leg(0, 3, 4)), 0, 400, 0, 0);
        BatonZones last = Due.book("track 2 50 20 20 0;team a 1;runs a 100 -20;runs a 100 0;");
        Due.are(Due.of(last.leg(0, 1, 3), last.leg(0, 1, 4), last.leg(0, 2, 3), last.leg(0, 2, 4)), 0, 0, 400, 0);
    }

    private static void inBox() {
        BatonZones z = Due.book(STEADY);
        Due.says(20, "its PLACE from BEFORE ahead of a line but the last to AFTER behind it, both too");
        Due.are(Due.of(z.inBox(0, 399), z.inBox(0, 400), z.inBox(0, 401), z.inBox(0, 699), z.inBox(0, 700), z.inBox(0, 701)), 0, 1, 1, 1, 1, 0);
        Due.are(Due.of(z.inBox(0, 899), z.inBox(0, 900), z.inBox(0, 1200), z.inBox(0, 1201)), 0, 1, 1, 0);
        Due.are(Due.of(z.inBox(1, 199), z.inBox(1, 200), z.inBox(1, 350), z.inBox(1, 351), z.inBox(1, 9999), z.inBox(2, 0), z.inBox(2, 9999)),
            0, 1, 1, 0, 1, 0, 0);
        Due.says(20, "a line but the last");
        Due.are(Due.of(z.inBox(0, 1399), z.inBox(0, 1400), z.inBox(0, 1500), z.inBox(0, 1501), z.inBox(0, 9999)), 0, 0, 0, 0, 0);
        BatonZones two = Due.book("track 2 50 20 20 0;team a 1;runs a 500 0;runs a 500 0;");
        Due.are(Due.of(two.inBox(0, 299), two.inBox(0, 300), two.inBox(0, 700), two.inBox(0, 701), two.inBox(0, 800), two.inBox(0, 1000)), 0, 1, 1, 0, 0, 0);
        BatonZones thin = Due.book("track 2 50 0 0 0;team a 1;runs a 500 0;runs a 500 0;");
        Due.are(Due.of(thin.inBox(0, 499), thin.inBox(0, 500), thin.inBox(0, 501)), 0, 1, 0);
        Due.says(20, "NONE for another TENTH (0 .. 9999), too");
        Due.edges(0, 9999, -1, i -> z.inBox(0, i));
        Due.says(20, "NONE: there is no such TEAM");
        Due.edges(0, 2, -1, t -> z.inBox(t, 0));
    }

    // ---- 21, 22, 23

    private static void act() {
        BatonZones z = Due.book(ACTS);
        Due.says(21, "0: KIND (0 drop .. 4 box), 1: TEAM, 2: OTHER (NONE), 3: TENTH, 4: SIZE, 5: 1 if it is WAIVED, else 0");
        Due.all(0, 5, i -> z.act(0, i), 0, 0, -1, 7, 8, 0);
        Due.all(0, 5, i -> z.act(1, i), 3, 1, 0, 9, 4, 0);
        Due.all(0, 5, i -> z.act(2, i), 2, 2, -1, 30, 2, 0);
        Due.all(0, 5, i -> z.act(6, i), 4, 1, -1, 500, 0, 0);
        z.waive(1);
        Due.all(0, 6, a -> z.act(a, 5), 0, 1, 0, 0, 0, 0, 0);
        Due.is(Due.book(STEADY + "act lane ann 1 1;").act(0, 0), 1);
        Due.says(21, "-2000000: there is no such ACT");
        Due.edges(0, 6, Due.NO, a -> z.act(a, 0));
        Due.is(Due.book(STEADY.substring(0, 20)).act(0, 0), Due.NO);
        Due.says(21, "-2000000: another what");
        Due.edges(0, 5, Due.NO, i -> z.act(0, i));
        Due.edges(0, 5, Due.NO, i -> z.act(6, i));
    }

    private static void fact() {
        BatonZones z = Due.book(ACTS);
        Due.says(22, "FACT k of an ACT (in the order as told in I, from 0 on)");
        Due.all(0, 10, k -> z.fact(1, k), 9, 4, 1, 1, 1, 3, 9, 89, 0, 0, 1);
        Due.all(0, 10, k -> z.fact(6, k), 500, 0, 2, 100, 1, 0, 0, -10, 1, 0, 1);
        BatonZones words = Due.book(STEADY + "act impede ann bob 600 12;act impede cat ann 590 1;act impede ann cat 3 3;"
            + "rule a drop when tenth=600 and size=12 and leg=2 and place=60 and lane=3 and other=1;"
            + "rule b drop when ahead=0-400 and cut=30 and again=1 and forced=1 and rank=2;");
        Due.all(0, 10, k -> words.fact(0, k), 600, 12, 2, 60, 3, 1, -400, 30, 1, 1, 2);
        Due.are(Due.of(words.holds(0, 0, 0), words.holds(1, 0, 0)), 1, 1);
        Due.says(22, "-2000000: there is no such ACT");
        Due.edges(0, 6, Due.NO, a -> z.fact(a, 0));
        Due.says(22, "-2000000: another what");
        Due.edges(0, 10, Due.NO, k -> z.fact(0, k));
    }

    private static void rule() {
        BatonZones z = Due.book("track 2 50 0 0 0;rule a drop when 1=1;rule b lane when 1=1 and 1=1 or 1=1 excuse 1=1 and 1=1;rule c cut when not (1=1);"
            + "rule d impede when {1}=1 excuse not not 1=1;rule e box when 1=1 or 1=1;");
        Due.says(23, "0: KIND, 1: COMPARISONS of when, 2: of excuse (NONE without)");
        Due.all(0, 4, r -> z.rule(r, 0), 0, 1, 2, 3, 4);
        Due.all(0, 4, r -> z.rule(r, 1), 1, 3, 1, 1, 2);
        Due.all(0, 4, r -> z.rule(r, 2), -1, 2, -1, 1, -1);
        StringBuilder many = new StringBuilder("track 2 50 0 0 0;rule a drop when 1=1");
        many.append("or 1=1".repeat(60)).append(" excuse 2=2").append("and 2=2".repeat(38)).append(';');
        BatonZones most = Due.book(many.toString());
        Due.are(Due.of(most.rule(0, 1), most.rule(0, 2)), 61, 39);
        Due.says(23, "-2000000: there is no such RULE");
        Due.edges(0, 4, Due.NO, r -> z.rule(r, 0));
        Due.is(Due.book("track 2 50 0 0 0;").rule(0, 0), Due.NO);
        Due.says(23, "-2000000: another what");
        Due.edges(0, 2, Due.NO, i -> z.rule(1, i));
        Due.edges(0, 2, Due.NO, i -> z.rule(0, i));
    }

    // ---- 24, 25, 26

    private static void holds() {
        BatonZones z = Due.book(ACTS);
        Due.says(24, "Whether when (part 0), excuse (1) of a RULE holds for an ACT (of whichever KIND): 1, 0");
        Due.all(0, 6, a -> z.holds(0, 0, a), 1, 0, 0, 0, 0, 0, 0);
        Due.all(0, 6, a -> z.holds(1, 0, a), 1, 1, 1, 1, 1, 1, 1);
        BatonZones sizes = Due.book(STEADY + "act drop ann 1 3;act lane ann 1 2;rule y impede when 1=1 excuse size=3;");
        Due.all(0, 2, a -> sizes.holds(0, 1, a), 1, 0, 0);
        Due.says(24, "-2000000, too, for another part");
        Due.edges(0, 1, Due.NO, part -> z.holds(1, part, 0));
        Due.says(24, "-2000000, too, without excuse");
        Due.all(-1, 2, part -> z.holds(0, part, 0), Due.NO, 1, Due.NO, Due.NO);
        Due.says(24, "-2000000: there is no such RULE");
        Due.edges(0, 1, Due.NO, r -> z.holds(r, 0, 0));
        Due.says(24, "-2000000: there is no such ACT");
        Due.edges(0, 6, Due.NO, a -> z.holds(0, 0, a));
        Due.edges(0, 6, Due.NO, a -> z.holds(1, 1, a));
    }

    private static void why() {
        BatonZones z = Due.book("track 2 50 0 0 0;team a 1;act drop a 1 1;runs a 20 0;rule r drop when 1=1 and 2=2 and 3=3 excuse 1=2 or 1=3;rule s drop when 1=1;");
        Due.says(25, "how many COMPARISONS (i NONE)");
        Due.are(Due.of(z.why(0, 0, 0, -1), z.why(0, 1, 0, -1), z.why(1, 0, 0, -1), z.why(0, 0, 1, -1)), 3, 2, 1, 3);
        Due.says(25, "the number of the i-th of these (by numbers; from 0 on); NONE: there are not so many");
        Due.all(0, 4, i -> z.why(0, 0, 0, i), 0, 1, 2, -1, -1);
        Due.all(0, 3, i -> z.why(0, 1, 0, i), 0, 1, -1, -1);
        Due.are(Due.of(z.why(0, 0, 0, Due.MAX), z.why(0, 0, 0, -2), z.why(0, 0, 0, Due.MIN)), -1, -1, -1);
        Due.says(25, "WHY of it: of that RULE, part, ACT, whichever was asked ahead of it");
        BatonZones of = Due.book("track 2 50 0 0 0;team a 1;act drop a 1 1;act drop a 1 2;act lane a 1 3;rule r drop when size=1 or size>1 and 1=1 excuse size=3 or 1=2;"
            + "rule s drop when size=2 or size=1 or size=3;");
        for (int other = 0; other < 3; other++) {
            of.holds(other == 1 ? 1 : 0, other == 2 ? 1 : 0, 2 - other);
            Due.are(Due.of(of.why(0, 0, 0, -1), of.why(0, 0, 1, -1), of.why(0, 0, 2, 1), of.why(0, 0, 0, 0), of.why(0, 0, 1, 0)), 1, 2, 2, 0, 1);
            Due.are(Due.of(of.why(0, 1, 0, -1), of.why(0, 1, 2, -1), of.why(1, 0, 0, 0), of.why(1, 0, 1, 0), of.why(1, 0, 2, 0)), 2, 1, 1, 0, 2);
        }
        Due.says(25, "the number of the i-th of these: of as many as there can be");
        StringBuilder many = new StringBuilder("track 2 50 0 0 0;team a 1;act drop a 1 1;rule r drop when 1=2");
        many.append("or 1=2".repeat(100)).append(';');
        BatonZones most = Due.book(many.toString());
        Due.are(Due.of(most.why(0, 0, 0, -1), most.why(0, 0, 0, 100), most.why(0, 0, 0, 101)), 101, 100, -1);
        Due.says(25, "-2000000 as holds(): another part, without excuse");
        for (int i = -1; i <= 0; i++) {
            int which = i;
            Due.edges(0, 1, Due.NO, part -> z.why(0, part, 0, which));
            Due.all(-1, 2, part -> z.why(1, part, 0, which), Due.NO, which == -1 ? 1 : 0, Due.NO, Due.NO);
        }
        Due.says(25, "-2000000 as holds(): there is no such RULE, ACT");
        Due.edges(0, 1, Due.NO, r -> z.why(r, 0, 0, -1));
        Due.edges(0, 1, Due.NO, a -> z.why(0, 0, a, -1));
        Due.is(z.why(0, 1, 2, Due.MAX), Due.NO);
    }

    private static void struckBy() {
        BatonZones z = Due.book(ACTS);
        Due.says(26, "Whether an ACT is STRUCK by a RULE: 1, 0");
        Due.all(0, 6, a -> z.struckBy(a, 0), 1, 0, 0, 0, 0, 0, 0);
        Due.all(0, 6, a -> z.struckBy(a, 1), 0, 1, 0, 0, 0, 0, 0);
        StringBuilder eight = new StringBuilder(STEADY + "act drop ann 7 8;");
        for (char c = 'p'; c <= 'w'; c++) {
            eight.append("rule ").append(c).append(" drop when ").append(c == 'q' || c == 'w' ? "1=1;" : "1=2;");
        }
        BatonZones most = Due.book(eight.toString());
        Due.all(-1, 8, r -> most.struckBy(0, r), Due.NO, 0, 1, 0, 0, 0, 0, 0, 1, Due.NO);
        Due.says(26, "-2000000: there is no such ACT");
        Due.edges(0, 6, Due.NO, a -> z.struckBy(a, 0));
        Due.says(26, "-2000000: there is no such RULE");
        Due.edges(0, 1, Due.NO, r -> z.struckBy(0, r));
        Due.edges(0, 7, Due.NO, r -> most.struckBy(0, r));
        // a number that a shift would take for rule 0
        Due.are(Due.of(z.struckBy(0, 32), z.struckBy(0, 64), z.struckBy(64, 0)), Due.NO, Due.NO, Due.NO);
    }

    // ---- 27, 28

    /** How many sizes, the least, the greatest with which a drop of ann of size 5 at 7 would not be struck. */
    private static int[] clean(String rules) {
        BatonZones z = Due.book(STEADY + "act drop ann 7 5;" + rules);
        return Due.of(z.clean(0, 0), z.clean(0, 1), z.clean(0, 2));
    }

    private static void clean() {
        Due.says(27, "With how many SIZES (0 .. 99) an ACT that was told would not be STRUCK (what 0), the least of these (1), the greatest (2)");
        Due.are(clean("rule r drop when size<99;"), 1, 99, 99);
        Due.are(clean("rule r drop when size>0;"), 1, 0, 0);
        Due.are(clean("rule r drop when size<98;"), 2, 98, 99);
        Due.are(clean("rule r drop when size>1;"), 2, 0, 1);
        Due.are(clean("rule r drop when size=0 or size=99;"), 98, 1, 98);
        Due.are(clean("rule r drop when size>99;"), 100, 0, 99);
        Due.are(clean("rule r lane when 1=1;"), 100, 0, 99);
        Due.are(clean(""), 100, 0, 99);
        Due.are(clean("rule r drop when 1=1 excuse size=50;"), 1, 50, 50);
        Due.says(27, "NONE: there are none");
        Due.are(clean("rule r drop when size<100;"), 0, -1, -1);
        Due.are(clean("rule r drop when 1=1 excuse size>99;"), 0, -1, -1);
        Due.says(27, "by any RULE");
        Due.are(clean("rule r drop when size<40;rule s drop when size>60;"), 21, 40, 60);
        Due.are(clean("rule r drop when size<50;rule s drop when size>49;"), 0, -1, -1);
        Due.are(clean("rule r drop when 1=1 excuse size=2;rule s drop when 1=1 excuse size=3;"), 0, -1, -1);
        Due.says(27, "all else as it is");
        Due.are(clean("rule r drop when tenth=7 and size<3;"), 97, 3, 99);
        Due.are(clean("rule r drop when not tenth=7 and size<3;"), 100, 0, 99);
        BatonZones waived = Due.book(STEADY + "act drop ann 7 5;act drop ann 8 5;rule r drop when again=1;");
        Due.are(Due.of(waived.clean(1, 0), waived.waive(0), waived.clean(1, 0), waived.clean(0, 0), waived.clean(0, 1), waived.clean(0, 2)),
            0, 1, 100, 100, 0, 99);
        BatonZones z = Due.book(ACTS);
        Due.says(27, "an ACT that was told; -2000000, too, for a box");
        Due.edges(0, 2, Due.NO, a -> z.clean(a, 0));
        Due.all(3, 7, a -> z.clean(a, 1), Due.NO, Due.NO, Due.NO, Due.NO, Due.NO);
        Due.says(27, "-2000000: another what");
        Due.edges(0, 2, Due.NO, i -> z.clean(0, i));
    }

    /** How many tenths, the first, the last at which a drop of ann of size 5 at 7, told ahead of other acts, would not be struck. */
    private static int[] free(String others) {
        BatonZones z = Due.book(STEADY + "act drop ann 7 5;" + others);
        return Due.of(z.free(0, 0), z.free(0, 1), z.free(0, 2));
    }

    private static void free() {
        Due.says(28, "The same of TENTHS 0 .. 999 (what 0: how many, 1: the first, 2: the last such)");
        Due.are(free("rule r drop when tenth<999;"), 1, 999, 999);
        Due.are(free("rule r drop when tenth>0;"), 1, 0, 0);
        Due.are(free("rule r drop when tenth<998;"), 2, 998, 999);
        Due.are(free("rule r drop when tenth>1;"), 2, 0, 1);
        Due.are(free("rule r drop when tenth=0 or tenth=999;"), 998, 1, 998);
        Due.are(free("rule r drop when tenth>999;"), 1000, 0, 999);
        Due.are(free(""), 1000, 0, 999);
        Due.are(free("rule r drop when 1=1 excuse tenth=500;"), 1, 500, 500);
        Due.says(28, "NONE: there are none");
        Due.are(free("rule r drop when tenth<1000;"), 0, -1, -1);
        Due.are(free("rule r drop when tenth<500;rule s drop when tenth>499;"), 0, -1, -1);
        Due.says(28, "TENTHS 0 .. 999, whatever its own is");
        BatonZones late = Due.book(STEADY + "act drop ann 9999 5;act drop ann 1000 5;rule r drop when tenth<1000;");
        Due.are(Due.of(late.struckBy(0, 0), late.struckBy(1, 0), late.free(0, 0), late.free(1, 2)), 0, 0, 0, -1);
        BatonZones z = Due.book(ACTS);
        Due.says(28, "an ACT that was told; -2000000, too, for a box");
        Due.edges(0, 2, Due.NO, a -> z.free(a, 0));
        Due.all(3, 7, a -> z.free(a, 1), Due.NO, Due.NO, Due.NO, Due.NO, Due.NO);
        Due.says(28, "-2000000: another what");
        Due.edges(0, 2, Due.NO, i -> z.free(0, i));
        Due.says(28, "a WAIVED one never is STRUCK");
        z.waive(0);
        Due.are(Due.of(z.free(0, 0), z.free(0, 1), z.free(0, 2)), 1000, 0, 999);
    }

    private static void freeByFacts() {
        Due.says(28, "all else as it is: what is so of the ACT is so of it at that TENTH");
        Due.are(free("rule r drop when size=5 and place>0;"), 10, 0, 9);
        Due.are(free("rule r drop when leg=1;"), 499, 501, 999);
        Due.are(free("rule r drop when cut<1;"), 900, 0, 899);
        Due.are(free("rule r drop when rank=1;"), 999, 1, 999);
        // at 50 it has the lesser number
        Due.are(free("act drop ann 50 1;rule r drop when again=0;"), 949, 51, 999);
        Due.are(free("act impede bob ann 9 1;rule r drop when forced=0;"), 21, 9, 29);
        Due.are(free("act impede bob ann 990 1;rule r drop when forced=0;"), 10, 990, 999);
        BatonZones impede = Due.book(STEADY + "act impede bob ann 9 1;rule r impede when ahead<500;");
        Due.are(Due.of(impede.free(0, 0), impede.free(0, 1), impede.free(0, 2)), 1, 500, 500);
        // at 50 it has the greater number
        BatonZones greater = Due.book(STEADY + "act drop ann 50 1;act drop ann 7 1;rule r drop when again=0;");
        Due.are(Due.of(greater.free(1, 0), greater.free(1, 1), greater.free(1, 2)), 950, 50, 999);
        // an act does not come ahead of itself, nor does where it was
        BatonZones own = Due.book(STEADY + "act drop ann 7 1;rule r drop when again>0;");
        Due.is(own.free(0, 0), 1000);
    }

    private static void nothingChanges() {
        Due.says(27, "what a call asks changes nothing");
        BatonZones asked = Due.book(ACTS);
        BatonZones other = Due.book(ACTS);
        for (BatonZones z : new BatonZones[] {asked, other}) {
            z.waive(2);
            z.appeal(0, 0, 55);
        }
        for (int i = -1; i <= 1; i++) {
            Due.is(asked.clean(i, 0) == asked.clean(i, 0) ? 1 : 0, 1);
            asked.free(i, 0);
            asked.fact(i, 8);
            asked.holds(1, 1, i);
            asked.why(1, 1, i, 0);
            asked.order(5, i);
            asked.cutIn(i);
            asked.fastest(i, 0);
            asked.boldest(i);
            asked.changes(i, 2);
            asked.crowd(5, i);
            asked.behind(i, 1);
            asked.winner(i);
            asked.stays(i, 1);
        }
        Due.same(asked, other);
    }
}
