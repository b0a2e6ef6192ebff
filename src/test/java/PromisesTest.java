/** Each promise of the document by numbers that were reckoned by hand: ordinary calls, edges, wrong ones. */
public final class PromisesTest {
    private static final int NO = -2000000;
    private static final int MAX = Integer.MAX_VALUE;
    private static final int MIN = Integer.MIN_VALUE;
    private static int wrong = 0;
    private static int promise = 0;

    /** Places where legs end: ann 1050 1900 3000, bob 960 2120 3000, cat 1200. */
    private static final String RACE = "track 3 100 10 15 50;"
        + "team ann 3;team bob 1;team cat 2;"
        + "runs ann 100 5;runs ann 100 - 10;runs ann 110 0;"
        + "runs bob 110 -4;runs bob 95 12;runs bob 100 0;"
        + "runs cat 105 20;";

    public static void main(String[] args) {
        aNewObject();
        tape();
        book();
        fault();
        about();
        namesTeamsLanes();
        places();
        orders();
        leads();
        lines();
        crowds();
        legs();
        boxes();
        acts();
        facts();
        forcedAndAgain();
        rules();
        reckoning();
        reasons();
        strikes();
        sizesAndTenths();
        struckTeams();
        results();
        besides();
        runAgain();
        winners();
        stays();
        appeals();
        measures();
        undone();
        System.out.println(wrong == 0 ? "all answers are as due" : wrong + " answers are not as due");
        if (wrong != 0) {
            System.exit(1);
        }
    }

    private static void due(String call, int got, int want) {
        if (got != want) {
            wrong++;
            System.out.println("promise " + promise + ": " + call + " answered " + got + ", due is " + want);
        }
    }

    /** What a call answers one after another, and what is due. */
    private static void row(String call, int[] got, int... want) {
        for (int i = 0; i < Math.max(got.length, want.length); i++) {
            due(call + " #" + i, i < got.length ? got[i] : MIN, i < want.length ? want[i] : MIN);
        }
    }

    private interface Call {
        int ask(int i);
    }

    /** A call for least .. most. */
    private static void all(String call, int least, int most, Call c, int... want) {
        int[] got = new int[most - least + 1];
        for (int i = least; i <= most; i++) {
            got[i - least] = c.ask(i);
        }
        row(call, got, want);
    }

    private static void feed(BatonZones z, String text) {
        for (int i = 0; i < text.length(); i += 20) {
            int[] n = new int[5];
            for (int j = 0; j < 20 && i + j < text.length(); j++) {
                n[j / 4] |= text.charAt(i + j) << 24 - 8 * (j % 4);
            }
            z.feed(n[0], n[1], n[2], n[3], n[4]);
        }
        z.end(text.length());
    }

    private static int told(BatonZones z, String text) {
        feed(z, text);
        return z.book();
    }

    private static BatonZones of(String text) {
        BatonZones z = new BatonZones();
        if (told(z, text) < 0) {
            wrong++;
            System.out.println("promise " + promise + ": fault " + z.fault(0) + " at " + z.fault(1) + " of " + text);
        }
        return z;
    }

    // ---- 1

    private static void aNewObject() {
        promise = 1;
        BatonZones z = new BatonZones();
        due("NONE", BatonZones.NONE, -1);
        all("about", -1, 13, z::about, -1, 0, 0, 0, 0, 0, 0, 0, 0, 0, 2, 5, 0, 0, -1);
        all("fault", -1, 2, z::fault, -1, 0, -1, -1);
        all("lane", 0, 9, z::lane, -1, -1, -1, -1, -1, -1, -1, -1, -1, -1);
        all("who", -1, 5, z::who, -1, 0, 0, 0, 0, 0, -1);
        row("no teams", new int[] {z.name(0, 0, 0), z.name(1, 0, 0), z.team(0, 0), z.place(0, 0), z.comes(0, 0),
            z.order(0, 0), z.boldest(0), z.changes(0, 1), z.cutIn(0), z.behind(0, 1), z.fastest(1, 0), z.leg(0, 1, 0),
            z.inBox(0, 0), z.struck(0, 0), z.rank(0), z.result(0), z.would(0), z.fairRank(0), z.margin(1), z.impeders(0),
            z.winner(0), z.stays(0, 0), z.appeal(0, 0, 1), z.waive(0), z.measure(0, 1, 20, 0), z.undo()},
            -1, -1, -1, -1, -1, -1, -1, -1, -1, -1, -1, -1, -1, -1, -1, -1, -1, -1, -1, -1, -1, -1, -1, -1, -1, -1);
        row("no acts", new int[] {z.act(0, 0), z.fact(0, 0), z.rule(0, 0), z.holds(0, 0, 0), z.why(0, 0, 0, -1),
            z.struckBy(0, 0), z.clean(0, 0), z.free(0, 0)}, NO, NO, NO, NO, NO, NO, NO, NO);
        due("crowd", z.crowd(0, 0), 0);
        due("again", z.again(), 0);
    }

    // ---- 2, 3

    private static void tape() {
        promise = 2;
        BatonZones z = new BatonZones();
        for (int i = 1; i <= 35; i++) {
            due("feed", z.feed(i, 0, MIN, MAX, -1), 20 * i);
        }
        due("feed beyond 700", z.feed(1, 2, 3, 4, 5), -1);
        due("about(12)", z.about(12), 700);
        promise = 3;
        due("end(-1)", z.end(-1), -1);
        due("end(701)", z.end(701), -1);
        due("about(12)", z.about(12), 700);
        due("end(700)", z.end(700), 700);
        due("end(681)", z.end(681), 681);
        promise = 2;
        due("feed beyond 700 from 681", z.feed(0, 0, 0, 0, 0), -1);
        due("about(12)", z.about(12), 681);
        promise = 3;
        due("end(680)", z.end(680), 680);
        promise = 2;
        due("feed from 680", z.feed(0, 0, 0, 0, 0), 700);
        promise = 3;
        due("end(0)", z.end(0), 0);
        due("end(1)", z.end(1), -1);
        promise = 2;
        // each number the highest byte first: "trac" "k 2 " "50 0" " 0 0" ";\n  "
        due("feed", z.feed(0x74726163, 0x6b203220, 0x35302030, 0x20302030, 0x3b0a2020), 20);
        due("book", z.book(), 0);
        due("about(1)", z.about(1), 50);
        // bytes above 127 are bytes
        due("feed", z.feed(0xff000000, 0, 0, 0, 0), 20);
        due("book", z.book(), -1);
        row("fault", new int[] {z.fault(0), z.fault(1)}, 1, 0);
        promise = 3;
        feed(z, "track 2 50 0 0 0;team");
        due("end cuts", z.end(17), 17);
        due("book", z.book(), 0);
    }

    // ---- 4, 5

    private static void book() {
        promise = 4;
        BatonZones z = new BatonZones();
        due("no text", z.book(), -1);
        due("track alone", told(z, "track 2 50 0 0 50;"), 0);
        due("lines of all sorts", told(z, "track 2 50 0 0 50;team a 1;team b 2;runs a 20 0;act drop a 0 0;act impede a b 1 1;"
            + "rule c box when 1=1;rule d drop when 1=2 excuse 3=3;through 1;within 0;"), 9);
        due("about(12)", z.about(12), 0);
        due("waive", z.waive(0), 1);
        due("about(11)", z.about(11), 1);
        due("a fault", told(z, "track 3 60 1 1 1;team x 1"), -1);
        row("all else stays", new int[] {z.about(0), z.about(1), z.about(5), z.about(11), z.act(0, 5), z.about(12), z.name(0, 0, 0)},
            2, 50, 2, 1, 1, 0, 1);
        due("an empty tape", z.book(), -1);
        row("all else stays", new int[] {z.about(0), z.fault(0), z.fault(1), z.about(11)}, 2, 2, 0, 1);
        due("another book", told(z, "track 4 70 3 2 9;team q 4;act lane q 3 4;"), 2);
        row("another book", new int[] {z.about(0), z.about(1), z.about(5), z.about(8), z.about(9), z.about(10), z.about(11),
            z.act(0, 5), z.undo(), z.fault(0), z.fault(1)}, 4, 70, 1, 0, 2, 5, 0, 0, -1, 0, -1);
        // the old book's legs, rules and lanes are gone
        row("another book", new int[] {z.team(0, 1), z.place(0, 50), z.rule(0, 0), z.lane(1), z.lane(4)}, 0, 0, NO, -1, 0);
        due("rules told anew have no old excuse", told(z, "track 2 50 0 0 0;rule b drop when 1=1;rule c drop when 1=1;"), 2);
        row("excuse", new int[] {z.rule(0, 2), z.rule(1, 2)}, -1, -1);
        due("blanks and none", told(z, "\n track  2 50\n0 0 0;team a1;runs a20 0 ;act drop a 1 1;\n\n"), 3);
        due("zeros ahead", told(z, "track 0002 050 00 0000 0;team a 09;"), 1);
    }

    private static void fault() {
        promise = 5;
        BatonZones z = of("track 2 50 0 0 0;");
        all("without", -1, 2, z::fault, -1, 0, -1, -1);
        told(z, "track 7 50 0 0 0;");
        all("a LEGS of 7", -1, 2, z::fault, -1, 4, 6, -1);
        told(z, "track 2 50 0 0 0;");
        all("without again", 0, 1, z::fault, 0, -1);
    }

    // ---- 6

    private static void about() {
        promise = 6;
        BatonZones z = of(RACE + "act drop ann 5 6;act lane bob 5 6;rule r lane when 1=1;through 3;within 44;");
        all("about", -2, 13, z::about, -1, -1, 3, 100, 10, 15, 50, 3, 7, 2, 1, 3, 44, 0, 0, -1);
        z.waive(1);
        z.feed(0, 0, 0, 0, 0);
        all("about", 11, 12, z::about, 1, 20);
        due("about", z.about(MAX), -1);
        due("about", z.about(MIN), -1);
    }

    // ---- 7, 8, 9

    private static void namesTeamsLanes() {
        promise = 7;
        BatonZones z = of(RACE + "team abcdwxyz 9;rule zz box when 1=1;rule teams drop when 1=1;");
        all("name of cat", -1, 4, i -> z.name(0, 2, i), -1, 3, 1, 20, 0, 0);
        all("name of eight letters", 0, 9, i -> z.name(0, 3, i), 1, 2, 3, 4, 23, 24, 25, 26, 0, 0);
        all("name of a rule", 0, 3, i -> z.name(1, 0, i), 26, 26, 0, 0);
        all("name of a rule", 0, 5, i -> z.name(1, 1, i), 20, 5, 1, 13, 19, 0);
        row("none", new int[] {z.name(0, 4, 0), z.name(0, -1, 0), z.name(1, 2, 0), z.name(1, -1, 0), z.name(2, 0, 0), z.name(-1, 0, 0),
            z.name(0, 0, MIN), z.name(0, 0, MAX), z.name(0, MAX, 0)}, -1, -1, -1, -1, -1, -1, -1, 0, -1);
        promise = 8;
        all("team ann", -1, 4, i -> z.team(0, i), -1, 3, 3, 310, 1, -1);
        all("team cat", 0, 3, i -> z.team(2, i), 2, 1, 105, 0);
        all("team without legs", 0, 3, i -> z.team(3, i), 9, 0, 0, 0);
        row("none", new int[] {z.team(-1, 0), z.team(4, 0), z.team(MAX, 0), z.team(MIN, 0)}, -1, -1, -1, -1);
        promise = 9;
        all("lane", -1, 10, z::lane, -1, -1, 1, 2, 0, -1, -1, -1, -1, -1, 3, -1);
    }

    // ---- 10, 11

    private static void places() {
        promise = 10;
        BatonZones z = of(RACE + "team dan 9;");
        // 7 * 960 / 110 = 61.09, 109 * 960 / 110 = 951.27; 960 + 1160 / 95 = 972.2
        row("place of bob", new int[] {z.place(1, 0), z.place(1, 7), z.place(1, 109), z.place(1, 110), z.place(1, 111),
            z.place(1, 204), z.place(1, 205), z.place(1, 206), z.place(1, 305), z.place(1, 306), z.place(1, 9999)},
            0, 61, 951, 960, 972, 2107, 2120, 2128, 3000, 3000, 3000);
        row("place of cat", new int[] {z.place(2, 104), z.place(2, 105), z.place(2, 200)}, 1188, 1200, 1200);
        row("without legs", new int[] {z.place(3, 0), z.place(3, 9999)}, 0, 0);
        row("none", new int[] {z.place(0, -1), z.place(0, 10000), z.place(-1, 5), z.place(4, 5), z.place(MAX, MAX), z.place(0, MIN)},
            -1, -1, -1, -1, -1, -1);
        promise = 11;
        // 61 * 110 / 960 = 6.99, 62 * 110 / 960 = 7.1
        row("comes of bob", new int[] {z.comes(1, 0), z.comes(1, 61), z.comes(1, 62), z.comes(1, 960), z.comes(1, 961), z.comes(1, 972),
            z.comes(1, 973), z.comes(1, 3000), z.comes(1, 3001)}, 0, 7, 8, 110, 111, 111, 112, 305, -2);
        // 901 * 101 / 1000 = 91.001
        BatonZones close = of("track 2 100 0 0 0;team a 1;runs a 101 0;");
        row("comes a little late", new int[] {close.comes(0, 901), close.place(0, 91), close.place(0, 92)}, 92, 900, 910);
        row("comes of cat", new int[] {z.comes(2, 1200), z.comes(2, 1201), z.comes(2, MAX)}, 105, -2, -2);
        row("without legs", new int[] {z.comes(3, 0), z.comes(3, 1)}, 0, -2);
        row("none", new int[] {z.comes(0, -1), z.comes(0, MIN), z.comes(-1, 0), z.comes(4, 0)}, -1, -1, -1, -1);
    }

    // ---- 12, 13, 14

    private static void orders() {
        promise = 12;
        BatonZones z = of(RACE);
        all("at the start by lane", -1, 3, k -> z.order(0, k), -1, 1, 2, 0, -1);
        // at 50: ann 525, bob 436, cat 571
        all("at 50", 0, 3, k -> z.order(50, k), 2, 0, 1, -1);
        all("at the end by lane", 0, 2, k -> z.order(9999, k), 1, 0, 2);
        row("none", new int[] {z.order(-1, 0), z.order(10000, 0), z.order(0, MIN), z.order(0, MAX)}, -1, -1, -1, -1);
    }

    private static void leads() {
        promise = 13;
        // a: 100 at 100 then 2000 at 180; b evenly 1000 at 100, 2000 at 200
        BatonZones z = of("track 2 100 0 0 0;team a 1;team b 2;runs a 100 0;runs a 80 0;runs b 100 0;runs b 100 0;");
        row("boldest", new int[] {z.boldest(0), z.boldest(1), z.boldest(-1), z.boldest(2)}, 180, 0, -1, -1);
        BatonZones alone = of("track 2 100 0 0 0;team a 1;runs a 100 0;");
        row("without others", new int[] {alone.boldest(0), alone.boldest(1)}, -2, -1);
        BatonZones three = of("track 2 100 0 0 0;team a 1;team b 2;team c 3;runs a 50 0;runs b 40 0;runs b 999 0;runs c 50 0;");
        // b is the most ahead at 40 (200); a is least behind at 0 and never ahead but then alike
        row("boldest of three", new int[] {three.boldest(0), three.boldest(1), three.boldest(2)}, 0, 1039, 0);
        // a is ahead by 1 from tenth 1 to 950, where it stays; b comes to 2990 at 997
        BatonZones least = of("track 2 290 0 0 0;team a 1;team b 2;runs a 950 -5;runs b 997 9;");
        row("boldest from the first tenth on", new int[] {least.boldest(0), least.boldest(1)}, 1, 997);
        promise = 14;
        row("never", new int[] {z.changes(0, 1), z.changes(1, 0)}, 0, 0);
        // a ahead, alike at the line, b ahead, and at the end a again (b at 150 behind 300)
        BatonZones w = of("track 3 100 0 0 0;team a 1;team b 2;runs a 90 0;runs a 110 0;runs a 80 0;runs b 100 0;runs b 90 0;runs b 100 0;");
        row("changes", new int[] {w.changes(0, 1), w.changes(1, 0), w.changes(0, 0), w.changes(0, 2), w.changes(-1, 0), w.changes(2, 0)},
            2, 2, -1, -1, -1, -1);
        // a stays at 690 from 20 on, b is at 672 at 24 and at 700 at 25
        BatonZones late = of("track 2 50 0 0 0;team a 1;team b 2;runs a 20 19;runs b 25 20;");
        row("at the last tenth of all", new int[] {late.changes(0, 1), late.place(1, 24), late.place(1, 25)}, 1, 672, 700);
        // alike from 100 on, between them nothing changes
        BatonZones alike = of("track 2 100 0 0 0;team a 1;team b 2;runs a 100 5;runs a 100 0;runs b 100 0;runs b 100 0;");
        due("alike at the ends", alike.changes(0, 1), 0);
    }

    // ---- 15, 16

    private static void lines() {
        promise = 15;
        BatonZones z = of(RACE);
        // to 1500: ann 100 + 450 * 100 / 850 = 152.9, bob 110 + 540 * 95 / 1160 = 154.2; cat never
        all("cutIn", -1, 3, z::cutIn, -1, 0, 1, -1, -1);
        due("cutIn", z.cutIn(MAX), -1);
        BatonZones none = of("track 2 100 0 0 0;team a 1;runs a 100 0;runs a 50 0;");
        due("no cut", none.cutIn(0), -1);
        BatonZones alike = of("track 2 100 0 0 100;team a 2;team b 1;runs a 100 0;runs a 50 0;runs b 100 0;runs b 50 0;");
        all("alike by lane", 0, 2, alike::cutIn, 1, 0, -1);
        promise = 16;
        // to 1000: ann 95.2 -> 96, bob 110 + 40 * 95 / 1160 = 113.3 -> 114, cat 87.5 -> 88
        row("line 1", new int[] {z.behind(0, 1), z.behind(1, 1), z.behind(2, 1)}, 8, 26, 0);
        // to 2000: ann 200 + 100 * 110 / 1100 = 210, bob 110 + 1040 * 95 / 1160 = 195.2 -> 196
        row("line 2", new int[] {z.behind(0, 2), z.behind(1, 2), z.behind(2, 2)}, 14, 0, -2);
        row("line 3", new int[] {z.behind(0, 3), z.behind(1, 3), z.behind(2, 3)}, 5, 0, -2);
        row("none", new int[] {z.behind(0, 0), z.behind(0, 4), z.behind(0, -1), z.behind(3, 1), z.behind(-1, 1), z.behind(0, MAX)},
            -1, -1, -1, -1, -1, -1);
        BatonZones ahead = of("track 2 100 0 0 0;team a 1;runs a 100 -1;");
        due("passed ahead of the line", ahead.behind(0, 1), -2);
    }

    // ---- 17

    private static void crowds() {
        promise = 17;
        BatonZones z = of(RACE);
        // at 50: 436 525 571
        row("crowd", new int[] {z.crowd(50, 0), z.crowd(50, 45), z.crowd(50, 46), z.crowd(50, 88), z.crowd(50, 89), z.crowd(50, 134),
            z.crowd(50, 135), z.crowd(50, MAX), z.crowd(0, 0), z.crowd(9999, 0)}, 1, 1, 2, 2, 2, 2, 3, 3, 3, 2);
        row("none", new int[] {z.crowd(-1, 0), z.crowd(10000, 0), z.crowd(0, -1), z.crowd(0, MIN)}, -1, -1, -1, -1);
        BatonZones none = of("track 2 100 0 0 0;");
        due("no teams", none.crowd(0, 0), 0);
        due("no teams", none.crowd(10000, 0), -1);
    }

    // ---- 18, 19

    private static void legs() {
        promise = 18;
        BatonZones z = of(RACE + "team dan 9;");
        all("fastest 1", -1, 3, i -> z.fastest(1, i), -1, 0, 100, 315, -1);
        all("fastest 2", 0, 2, i -> z.fastest(2, i), 1, 95, 195);
        all("fastest 3", 0, 2, i -> z.fastest(3, i), 1, 100, 210);
        row("none", new int[] {z.fastest(0, 0), z.fastest(4, 0), z.fastest(-1, 2), z.fastest(MAX, 0)}, -1, -1, -1, -1);
        BatonZones few = of("track 3 100 0 0 0;team a 7;team b 3;runs a 50 0;runs b 50 0;");
        row("alike, by lane", new int[] {few.fastest(1, 0), few.fastest(1, 1), few.fastest(1, 2)}, 1, 50, 100);
        row("told to none", new int[] {few.fastest(2, 0), few.fastest(2, 1), few.fastest(2, 2)}, -1, -1, -1);
        promise = 19;
        // boxes 900 .. 1150, 1900 .. 2150
        all("leg 1 of ann", -1, 5, i -> z.leg(0, 1, i), -1, 100, 100, 5, 0, 150, -1);
        all("leg 2 of ann", 0, 4, i -> z.leg(0, 2, i), 100, 200, -10, 100, 0);
        all("leg 3 of ann", 0, 4, i -> z.leg(0, 3, i), 110, 310, 0, 250, 0);
        all("leg 2 of bob", 0, 4, i -> z.leg(1, 2, i), 95, 205, 12, 190, 220);
        all("leg 1 of cat", 0, 4, i -> z.leg(2, 1, i), 105, 105, 20, 0, 250);
        row("none", new int[] {z.leg(0, 0, 0), z.leg(0, 4, 0), z.leg(2, 2, 0), z.leg(3, 1, 0), z.leg(-1, 1, 0), z.leg(4, 1, 0), z.leg(0, MIN, 0)},
            -1, -1, -1, -1, -1, -1, -1);
        BatonZones wide = of("track 2 50 0 0 0;team a 1;runs a 30 -20;runs a 30 0;");
        row("a leg from ahead of the box on", new int[] {wide.leg(0, 1, 4), wide.leg(0, 2, 3), wide.leg(0, 2, 4)}, 0, 0, 0);
        BatonZones over = of("track 2 50 5 7 0;team a 1;runs a 30 -20;runs a 30 0;");
        row("all of the box in the next leg", new int[] {over.leg(0, 1, 4), over.leg(0, 2, 3)}, 0, 120);
    }

    // ---- 20

    private static void boxes() {
        promise = 20;
        BatonZones z = of("track 3 100 10 15 0;team a 1;runs a 100 0;runs a 100 0;runs a 100 0;team b 2;");
        row("inBox", new int[] {z.inBox(0, 0), z.inBox(0, 89), z.inBox(0, 90), z.inBox(0, 115), z.inBox(0, 116), z.inBox(0, 189),
            z.inBox(0, 190), z.inBox(0, 215), z.inBox(0, 216), z.inBox(0, 290), z.inBox(0, 9999), z.inBox(1, 0)},
            0, 0, 1, 1, 0, 0, 1, 1, 0, 0, 0, 0);
        row("none", new int[] {z.inBox(0, -1), z.inBox(0, 10000), z.inBox(2, 0), z.inBox(-1, 0)}, -1, -1, -1, -1);
        BatonZones thin = of("track 2 100 0 0 0;team a 1;runs a 100 0;runs a 100 0;");
        row("a box as thin as a line", new int[] {thin.inBox(0, 99), thin.inBox(0, 100), thin.inBox(0, 101)}, 0, 1, 0);
    }

    // ---- 21

    private static void acts() {
        promise = 21;
        BatonZones z = of(RACE + "act drop cat 7 8;act lane ann 0 0;act cut bob 9999 99;act impede cat bob 70 1;");
        all("drop", -1, 6, i -> z.act(0, i), NO, 0, 2, -1, 7, 8, 0, NO);
        all("lane", 0, 5, i -> z.act(1, i), 1, 0, -1, 0, 0, 0);
        all("cut", 0, 5, i -> z.act(2, i), 2, 1, -1, 9999, 99, 0);
        all("impede", 0, 5, i -> z.act(3, i), 3, 2, 1, 70, 1, 0);
        all("box of ann 1", 0, 5, i -> z.act(4, i), 4, 0, -1, 100, 0, 0);
        all("box of ann 2", 0, 5, i -> z.act(5, i), 4, 0, -1, 200, 0, 0);
        all("box of bob 1", 0, 5, i -> z.act(6, i), 4, 1, -1, 110, 0, 0);
        all("box of bob 2", 0, 5, i -> z.act(7, i), 4, 1, -1, 205, 0, 0);
        all("box of cat 1", 0, 5, i -> z.act(8, i), 4, 2, -1, 105, 5, 0);
        row("none", new int[] {z.act(-1, 0), z.act(9, 0), z.act(MAX, 0), z.act(MIN, 0), z.act(0, MAX)}, NO, NO, NO, NO, NO);
        z.waive(3);
        row("waived", new int[] {z.act(3, 5), z.act(2, 5)}, 1, 0);
        StringBuilder full = new StringBuilder("track 6 50 0 0 0;");
        for (int t = 0; t < 6; t++) {
            full.append("team ").append("abcdef".charAt(t)).append(' ').append(t + 1).append(';');
            for (int l = 0; l < 6; l++) {
                full.append("runs ").append("abcdef".charAt(t)).append(" 20 0;");
            }
        }
        BatonZones all = of(full + "act cut a 1 1;".repeat(12) + "rule x box when again=4;");
        row("all acts that there can be", new int[] {all.about(6), all.act(41, 1), all.act(41, 3), all.fact(41, 8), all.struckBy(41, 0), all.struckBy(40, 0),
            all.act(42, 0), all.struck(5, 0), all.who(0), all.stays(5, 0), all.winner(41), all.waive(11), all.waive(12)},
            42, 5, 100, 4, 1, 0, NO, 41, 63, -2, 5, 1, -1);
        BatonZones ahead = of("track 3 100 10 15 0;team a 1;runs a 99 -10;runs a 99 -11;runs a 99 0;team b 2;runs b 99 15;runs b 99 16;");
        all("metres outside", 0, 3, i -> ahead.act(i, 4), 0, 1, 0, 1);
    }

    // ---- 22

    private static void facts() {
        promise = 22;
        BatonZones z = of(RACE + "act impede ann cat 150 33;act lane bob 110 0;act cut cat 400 2;act drop bob 0 1;");
        // at 150: ann 1050 + 50 * 8.5 = 1475, bob 960 + 40 * 1160 / 95 = 1448, cat 1200
        all("impede of ann", -1, 11, k -> z.fact(0, k), NO, 150, 33, 2, 147, 3, 2, 275, 3, 0, 0, 1, NO);
        // at 110: ann 1135, bob 960, cat 1200
        all("lane of bob", 0, 10, k -> z.fact(1, k), 110, 0, 1, 96, 1, 0, 0, 54, 0, 0, 3);
        // cat stays behind its only leg
        all("cut of cat", 0, 10, k -> z.fact(2, k), 400, 2, 1, 120, 2, 0, 0, 30, 0, 0, 3);
        all("drop of bob", 0, 10, k -> z.fact(3, k), 0, 1, 1, 0, 1, 0, 0, 150, 0, 0, 1);
        // box of bob 2 at 205: bob 2120, ann 1900 + 50, cat 1200; the box of bob 1 is ahead of it
        all("box of bob", 0, 10, k -> z.fact(7, k), 205, 0, 2, 212, 1, 0, 0, -62, 1, 0, 1);
        row("none", new int[] {z.fact(-1, 0), z.fact(9, 0), z.fact(0, MAX), z.fact(0, MIN)}, NO, NO, NO, NO);
        BatonZones no = of("track 2 100 0 0 0;team a 1;team b 2;act drop a 500 1;act impede a b 500 1;runs b 99 0;runs b 99 0;");
        all("without legs, without cut", 0, 10, k -> no.fact(0, k), 500, 1, 1, 0, 1, 0, 0, 0, 0, 0, 2);
        due("ahead below 0", no.fact(1, 6), -2000);
        BatonZones last = of("track 3 100 0 0 0;team a 1;runs a 50 0;runs a 50 0;act drop a 100 0;act drop a 101 0;act drop a 51 0;act drop a 50 0;");
        row("leg", new int[] {last.fact(0, 2), last.fact(1, 2), last.fact(2, 2), last.fact(3, 2)}, 2, 2, 2, 1);
    }

    private static void forcedAndAgain() {
        promise = 22;
        BatonZones z = of("track 2 100 0 0 0;team a 1;team b 2;act drop a 30 0;act drop a 30 0;act drop a 29 0;act lane a 10 0;"
            + "act drop b 1 0;act impede b a 10 0;act impede b a 9 0;act impede b a 30 0;act impede b a 31 0;act impede a b 30 0;");
        all("again", 0, 9, a -> z.fact(a, 8), 1, 2, 0, 0, 0, 1, 0, 2, 3, 0);
        all("forced", 0, 9, a -> z.fact(a, 9), 2, 2, 2, 2, 0, 0, 0, 1, 1, 2);
        z.waive(2);
        z.waive(5);
        all("again without waived ones", 0, 9, a -> z.fact(a, 8), 0, 1, 0, 0, 0, 1, 0, 1, 2, 0);
        all("forced without waived ones", 0, 9, a -> z.fact(a, 9), 1, 1, 1, 1, 0, 0, 0, 1, 1, 1);
    }

    // ---- 23, 24

    private static void rules() {
        promise = 23;
        BatonZones z = of("track 2 100 0 0 0;team a 1;act drop a 5 6;act lane a 5 7;runs a 99 1;"
            + "rule d drop when 1=1;rule l lane when 1=1 and 2=2 or not 3=3;rule c cut when size=6 excuse 1=2 or 3<4;"
            + "rule i impede when ((1=1));rule o box when {size}>0 excuse size=6;");
        all("rule 0", -1, 3, i -> z.rule(0, i), NO, 0, 1, -1, NO);
        all("rule 1", 0, 2, i -> z.rule(1, i), 1, 3, -1);
        all("rule 2", 0, 2, i -> z.rule(2, i), 2, 1, 2);
        all("rule 3", 0, 2, i -> z.rule(3, i), 3, 1, -1);
        all("rule 4", 0, 2, i -> z.rule(4, i), 4, 1, 1);
        row("none", new int[] {z.rule(-1, 0), z.rule(5, 0), z.rule(MAX, 0), z.rule(0, MIN)}, NO, NO, NO, NO);
        promise = 24;
        // of whichever kind
        row("size=6", new int[] {z.holds(2, 0, 0), z.holds(2, 0, 1), z.holds(2, 0, 2), z.holds(4, 1, 0), z.holds(4, 0, 2)}, 1, 0, 0, 1, 1);
        all("parts", -1, 2, p -> z.holds(2, p, 0), NO, 1, 1, NO);
        row("none", new int[] {z.holds(0, 1, 0), z.holds(-1, 0, 0), z.holds(5, 0, 0), z.holds(0, 0, -1), z.holds(0, 0, 3), z.holds(0, MAX, 0)},
            NO, NO, NO, NO, NO, NO);
    }

    /** What a condition comes to for a drop of size 6 at 40 by the team in lane 1. */
    private static int holds(String condition) {
        return of("track 2 100 0 0 20;team a 1;team b 2;runs a 100 0;act drop a 40 6;rule x drop when " + condition + ";").holds(0, 0, 0);
    }

    private static void reckoning() {
        promise = 24;
        row("comparisons", new int[] {holds("1<2"), holds("2<2"), holds("3<2"), holds("1>2"), holds("2>2"), holds("3>2"), holds("1=2"), holds("2=2")},
            1, 0, 0, 0, 0, 1, 0, 1);
        row("numbers", new int[] {holds("1+2*3=7"), holds("{1+2}*3=9"), holds("7-2-1=4"), holds("7-{2-1}=6"), holds("7-2+1=6"), holds("2*3*4=24"),
            holds("1-2<0"), holds("{{{{{{5}}}}}}=5"), holds("2*{3+4}*{5-6}=0-14"), holds("1+2+3*4-5*2=5")}, 1, 1, 1, 1, 1, 1, 1, 1, 1, 1);
        row("truths", new int[] {holds("1=1 or 1=1 and 1=2"), holds("(1=1 or 1=1) and 1=2"), holds("not 1=1 or 1=1"), holds("not (1=1 or 1=1)"),
            holds("not not 1=1"), holds("not 1=2 and 1=1"), holds("1=2 and 1=1 or 1=1"), holds("1=1 and not 1=2 and 1=1"), holds("1=2 or 1=2 or 1=1")},
            1, 0, 1, 0, 1, 1, 1, 1, 1);
        row("facts", new int[] {holds("tenth=40"), holds("size=6"), holds("leg=1"), holds("place=40"), holds("lane=1"), holds("other=0"),
            holds("ahead=0"), holds("cut=80"), holds("again=0"), holds("forced=0"), holds("rank=1")}, 1, 1, 1, 1, 1, 1, 1, 1, 1, 1, 1);
        // 2147483647
        String most = "9999*9999*21+9999*4790+8416";
        row("32 bits", new int[] {holds(most + "=8416+9999*4790+9999*9999*21"),
            holds(most + ">0"), holds(most + "+1>0"), holds("not " + most + "+1>0"), holds("0<" + most + "+1"), holds(most + "+1-1>0"),
            holds("0-" + most + "-1<0"), holds("0-{" + most + "}-1<0"), holds("0-{" + most + "}-2<0"), holds("9999*9999*9999=9999*9999*9999"),
            holds("0*{9999*9999*9999}=0"), holds("9999*9999*9999*9999*9999*9999>0 or 1=1"), holds("{0-9999*9999*21}*2<0")},
            1, 1, 0, 1, 0, 0, 1, 1, 0, 0, 0, 1, 0);
    }

    // ---- 25

    private static void reasons() {
        promise = 25;
        BatonZones z = of("track 2 100 0 0 20;team a 1;act drop a 40 6;"
            + "rule x drop when 1=1 excuse 1=2;"
            + "rule y drop when (1=1 and 2=2) or 3=3 or 4=4;"
            + "rule w drop when 1=2 or not (1=1 and 2=2) or 3=4;"
            + "rule v drop when 1=1 and (1=1 and 1=2 or 2=3 and 1=3) and (4=5 and 5=5);"
            + "rule u drop when (1=1 and 1=1 or 1=1 and 3=3) and 7=7;");
        all("one", -2, 2, i -> z.why(0, 0, 0, i), -1, 1, 0, -1, -1);
        all("excuse", -1, 1, i -> z.why(0, 1, 0, i), 1, 0, -1);
        // the fewer of those that hold, the left one of like ones
        all("or that holds", -1, 1, i -> z.why(1, 0, 0, i), 1, 2, -1);
        // all sides of an or that doesn't; of the and behind not, which holds, both
        all("or that doesn't", -1, 4, i -> z.why(2, 0, 0, i), 4, 0, 1, 2, 3, -1);
        // the or within needs two, the and behind it one
        all("and that doesn't", -1, 1, i -> z.why(3, 0, 0, i), 1, 5, -1);
        // both sides of an and; the left one of like sides of an or
        all("and that holds", -1, 3, i -> z.why(4, 0, 0, i), 3, 0, 1, 4, -1);
        row("none", new int[] {z.why(1, 1, 0, -1), z.why(0, 2, 0, 0), z.why(0, -1, 0, 0), z.why(-1, 0, 0, 0), z.why(5, 0, 0, 0), z.why(0, 0, 1, 0),
            z.why(0, 0, -1, -1), z.why(0, 0, 0, MAX), z.why(0, 0, 0, MIN)}, NO, NO, NO, NO, NO, NO, NO, -1, -1);
    }

    // ---- 26

    private static void strikes() {
        promise = 26;
        BatonZones z = of("track 2 100 5 5 0;team a 1;team b 2;runs a 99 7;act drop a 10 6;act drop b 10 3;act lane a 10 6;"
            + "rule x drop when size>2;rule y drop when size>2 excuse lane=1;rule l lane when size=5;rule o box when size=2;");
        all("drop of a", -1, 4, r -> z.struckBy(0, r), NO, 1, 0, 0, 0, NO);
        all("drop of b", 0, 3, r -> z.struckBy(1, r), 1, 1, 0, 0);
        all("lane of a", 0, 3, r -> z.struckBy(2, r), 0, 0, 0, 0);
        all("box of a", 0, 3, r -> z.struckBy(3, r), 0, 0, 0, 1);
        row("none", new int[] {z.struckBy(-1, 0), z.struckBy(4, 0), z.struckBy(MAX, 0), z.struckBy(0, MAX), z.struckBy(0, MIN)}, NO, NO, NO, NO, NO);
        z.waive(1);
        all("waived", 0, 3, r -> z.struckBy(1, r), 0, 0, 0, 0);
    }

    // ---- 27, 28

    private static void sizesAndTenths() {
        promise = 27;
        BatonZones z = of("track 2 100 5 5 0;team a 1;team b 2;runs a 100 7;runs b 50 0;act drop a 10 6;act lane a 10 6;act cut a 10 5;act cut a 20 5;"
            + "act impede b a 30 5;"
            + "rule x drop when size>2 and size<90;rule l lane when size<100;rule c cut when again>0 and size>50;"
            + "rule t cut when tenth>15 and not tenth=999 or tenth=7;rule i impede when place*10>0-ahead;");
        all("drop", -1, 3, i -> z.clean(0, i), NO, 13, 0, 99, NO);
        all("lane", 0, 2, i -> z.clean(1, i), 0, -1, -1);
        all("cut", 0, 2, i -> z.clean(2, i), 100, 0, 99);
        all("box", 0, 2, i -> z.clean(5, i), NO, NO, NO);
        row("none", new int[] {z.clean(-1, 0), z.clean(7, 0), z.clean(MAX, 0), z.clean(0, MIN)}, NO, NO, NO, NO);
        promise = 28;
        // 0 .. 15 without 7, and 999
        all("cut", -1, 3, i -> z.free(2, i), NO, 16, 0, 999, NO);
        all("drop", 0, 2, i -> z.free(0, i), 0, -1, -1);
        // at 0 no one is anywhere; from 1 on b is ahead of a
        all("impede", 0, 2, i -> z.free(4, i), 1, 0, 0);
        all("box", 0, 2, i -> z.free(6, i), NO, NO, NO);
        row("none", new int[] {z.free(-1, 0), z.free(7, 0), z.free(MAX, 0), z.free(0, MIN)}, NO, NO, NO, NO);
        row("nothing is changed", new int[] {z.act(0, 4), z.act(2, 3), z.about(11)}, 6, 10, 0);
        z.waive(1);
        all("waived, sizes", 0, 2, i -> z.clean(1, i), 100, 0, 99);
        all("waived, tenths", 0, 2, i -> z.free(1, i), 1000, 0, 999);
        // with the tenth told otherwise an act is ahead of others or behind them
        BatonZones w = of("track 2 100 5 5 0;team a 1;act drop a 50 1;act drop a 50 1;rule x drop when again=1;");
        row("again", new int[] {w.free(0, 0), w.free(0, 2), w.free(1, 0), w.free(1, 2)}, 51, 50, 50, 49);
    }

    // ---- 29

    private static void struckTeams() {
        promise = 29;
        BatonZones z = of("track 2 100 5 5 0;team a 1;team b 2;team c 3;runs a 10" + "0 7;act drop a 90 6;act lane a 20 6;act drop a 20 7;act drop b 5 1;"
            + "rule z drop when size=99;rule x drop when size>5;rule y drop when size>6;rule l lane when size>0;rule o box when size>0;");
        all("a", -1, 3, i -> z.struck(0, i), -1, 1, 3, 4, -1);
        all("b", 0, 2, i -> z.struck(1, i), -2, -2, 0);
        all("c", -1, 3, i -> z.struck(2, i), -1, -2, -2, 0, -1);
        row("none", new int[] {z.struck(3, 0), z.struck(-1, 2), z.struck(MAX, 0)}, -1, -1, -1);
        z.waive(1);
        all("a, one waived", 0, 2, i -> z.struck(0, i), 2, 1, 3);
        z.waive(2);
        z.waive(0);
        all("a, its box alone", 0, 2, i -> z.struck(0, i), 4, 4, 1);
    }

    // ---- 30, 31, 32, 35

    private static final String RESULTS = "track 2 100 5 5 0;team a 5;team b 3;team c 4;team d 1;team e 2;"
        + "runs a 100 0;runs a 100 0;runs b 99 0;runs b 101 0;runs c 100 0;runs c 99 0;runs d 90 0;runs d 90 0;runs e 100 0;"
        + "act drop d 5 5;rule x drop when size>4;";

    private static void results() {
        promise = 30;
        BatonZones z = of(RESULTS);
        all("rank", -1, 5, z::rank, -1, 2, 2, 1, -2, -2, -1);
        promise = 31;
        all("result", -1, 3, z::result, -1, 2, 1, 0, -1);
        row("none", new int[] {z.result(MAX), z.result(MIN)}, -1, -1);
        promise = 32;
        all("who", -1, 5, z::who, -1, 8, 7, 0, 0, 15, -1);
        promise = 35;
        all("margin", -1, 3, z::margin, -1, -1, 1, 0, -1);
        row("none", new int[] {z.margin(MAX), z.margin(MIN)}, -1, -1);
        promise = 37;
        due("again", z.again(), 0);
        promise = 32;
        BatonZones one = of(RESULTS + "through 1;");
        due("through 1", one.who(1), 4);
        one.waive(0);
        row("d is not struck", new int[] {one.who(0), one.who(1), one.rank(3), one.rank(0), one.result(0), one.margin(1)}, 0, 8, 1, 3, 3, 19);
        BatonZones three = of(RESULTS + "through 3;");
        due("through 3", three.who(1), 7);
    }

    // ---- 32, 33, 34, 36

    private static final String IMPEDED = "track 2 100 5 5 0;team a 1;team b 2;team c 3;team d 4;team e 5;"
        + "runs a 100 0;runs a 100 0;runs b 100 0;runs b 101 0;runs c 100 0;runs c 110 0;runs d 100 0;runs d 120 0;runs e 100 0;"
        + "act impede e c 30 4;act impede e d 30 8;act impede b d 40 6;act impede e d 5 9;act impede e b 30 99;act drop a 1 1;"
        + "rule x impede when tenth=30;rule y impede when tenth=40 and size<7;";

    private static void besides() {
        BatonZones z = of(IMPEDED + "through 1;");
        promise = 32;
        // b is struck; through is a (200); c would run 206, d 206
        all("who", 0, 4, z::who, 18, 1, 14, 0, 15);
        promise = 33;
        all("would", -1, 5, z::would, -1, 200, 102, 206, 206, -2, -1);
        promise = 36;
        all("impeders", -1, 5, z::impeders, -1, 0, 16, 16, 18, 0, -1);
        promise = 34;
        all("fairRank", -1, 5, z::fairRank, -1, 1, -2, 2, 2, -2, -1);
        promise = 30;
        all("rank", 0, 4, z::rank, 1, -2, 2, 3, -2);
        promise = 32;
        BatonZones six = of(IMPEDED + "through 1;within 6;");
        due("within 6", six.who(3), 12);
        due("within 5 without a line", z.who(3), 0);
        BatonZones five = of(IMPEDED + "within 99;");
        // through are a and c, d besides
        row("through 2", new int[] {five.who(1), five.who(3)}, 5, 8);
        six.waive(1);
        row("an act less", new int[] {six.who(3), six.would(3), six.impeders(3)}, 4, 214, 2);
        promise = 34;
        BatonZones fair = of(IMPEDED.replace("e d 30 8", "e d 30 99"));
        all("fairRank", 0, 4, fair::fairRank, 2, -2, 3, 1, -2);
        promise = 33;
        BatonZones below = of("track 2 50 5 5 0;team a 1;team b 2;runs a 20 0;runs a 20 0;act impede b a 1 99;rule x impede when 1=1;");
        due("would below 0", below.would(0), -59);
    }

    // ---- 37

    private static void runAgain() {
        promise = 37;
        due("two besides", of(IMPEDED + "through 1;within 6;").again(), 1);
        due("none besides", of(IMPEDED + "through 1;").again(), 0);
        due("one besides", of(IMPEDED + "through 2;within 99;").again(), 0);
        String two = "track 2 50 5 5 0;team a 1;team b 2;runs a 20 0;runs a 20 0;runs b 20 0;act drop a 1 9;act impede b a 1 1;";
        due("the whole one is neither", of(two).again(), 0);
        due("it is struck", of(two + "rule x drop when 1=1;").again(), 1);
        due("it is impeded", of(two + "rule x impede when 1=1;").again(), 1);
        due("another one is neither", of(two + "rule x impede when 1=1;runs b 20 0;team c 3;runs c 99 0;runs c 99 0;").again(), 0);
        due("no whole one", of("track 2 50 5 5 0;team a 1;runs a 20 0;act drop a 1 9;rule x drop when 1=1;").again(), 0);
    }

    // ---- 38

    private static void winners() {
        promise = 38;
        BatonZones z = of(RESULTS + "act lane c 1 1;rule o box when tenth=100;act impede a b 1 1;rule i impede when 1=1;");
        // struck: a (box, impede), c (box), d (drop), e (box); in the result b alone. acts 0 drop d, 1 lane c, 2 impede a, 3 a, 4 b, 5 c, 6 d, 7 e
        all("winner", -1, 8, z::winner, -1, 3, 1, 1, 1, 1, 2, 1, 1, -1);
        z.waive(0);
        row("not waived then", new int[] {z.winner(0), z.winner(1), z.winner(7), z.act(0, 5), z.about(11)}, 1, 3, 3, 1, 1);
        BatonZones none = of("track 2 100 5 5 0;team a 1;act drop a 1 1;");
        row("no one whole", new int[] {none.winner(0), none.winner(1), none.winner(MAX), none.winner(MIN)}, -2, -1, -1, -1);
    }

    // ---- 39

    private static void stays() {
        promise = 39;
        BatonZones z = of("track 2 100 5 5 0;team a 1;team b 2;team c 3;runs c 99 9;"
            + "act drop a 10 1;act drop a 20 1;act drop a 30 1;act impede a b 25 1;act lane b 30 1;act lane b 60 1;"
            + "rule x drop when again>1;rule y lane when forced>0;rule o box when size>3;");
        // any one of the three drops waived leaves the third at again 1
        row("a", new int[] {z.stays(0, 0), z.stays(0, 1)}, 1, 1);
        // the act that impedes it, or that itself: the lesser number
        row("b", new int[] {z.stays(1, 0), z.stays(1, 1)}, 1, 8);
        row("c by its box", new int[] {z.stays(2, 0), z.stays(2, 1)}, -2, -2);
        row("none", new int[] {z.stays(-1, 0), z.stays(3, 0), z.stays(0, 2), z.stays(0, -1), z.stays(2, 2)}, -1, -1, -1, -1, -1);
        z.waive(2);
        row("besides those that are", new int[] {z.stays(0, 0), z.stays(0, 1)}, 0, 0);
        row("nothing is changed", new int[] {z.act(0, 5), z.act(2, 5), z.about(11)}, 0, 1, 1);
        BatonZones all = of("track 2 50 0 0 0;team a 1;" + "act drop a 1 1;".repeat(12) + "rule x drop when size=1;");
        row("all twelve", new int[] {all.stays(0, 0), all.stays(0, 1)}, 12, 4095);
        BatonZones pair = of("track 2 50 0 0 0;team a 1;team b 2;act cut a 9 1;act drop a 1 1;act drop a 2 1;act drop a 3 1;rule x drop when again=0 or again=2;rule y cut when size=1;");
        // without the last drop one is left at 0, so all must be waived, or none is left at 0
        row("all of a kind", new int[] {pair.stays(0, 0), pair.stays(0, 1)}, 4, 15);
        BatonZones trade = of("track 2 50 0 0 0;team a 1;team b 2;act impede b a 1 1;act drop a 5 1;act drop a 6 1;rule x drop when forced=1;");
        row("another's act is fewer", new int[] {trade.stays(0, 0), trade.stays(0, 1)}, 1, 1);
        String ab = "track 2 50 0 0 0;team a 1;team b 2;";
        BatonZones first = of(ab + "act drop a 30 1;act drop a 10 1;rule x drop when again=1;");
        row("act 0 comes behind act 1", new int[] {first.stays(0, 0), first.stays(0, 1)}, 1, 1);
        BatonZones forced = of(ab + "act impede b a 5 1;act drop a 1 1;act drop a 6 1;rule x drop when again=1;");
        row("forced tells nothing", new int[] {forced.stays(0, 0), forced.stays(0, 1)}, 1, 2);
        BatonZones fifth = of(ab + "act drop a 1 1;".repeat(5) + "act lane a 9 1;rule x drop when again=4;");
        row("the fifth drop alone", new int[] {fifth.stays(0, 0), fifth.stays(0, 1)}, 1, 1);
        BatonZones never = of(ab + "act drop a 9 1;" + "act drop a 1 9;".repeat(4) + "rule x drop when size=9 or again=0;");
        row("without those ahead of it, it is struck", new int[] {never.stays(0, 0), never.stays(0, 1)}, 5, 31);
        BatonZones worse = of("track 2 50 0 0 0;team a 1;team b 2;act impede b a 1 1;act drop a 5 1;rule x drop when forced=0;");
        row("a waived act would strike it", new int[] {worse.stays(0, 0), worse.waive(0), worse.stays(0, 0), worse.stays(0, 1)}, 0, 1, 1, 2);
    }

    // ---- 40, 41

    private static void appeals() {
        promise = 40;
        BatonZones z = of(RACE + "act drop ann 7 8;act drop ann 5 8;rule x drop when tenth=9 or size=99;");
        row("tenth", new int[] {z.appeal(0, 0, 9), z.act(0, 3), z.act(0, 4), z.struckBy(0, 0), z.about(11)}, 7, 9, 8, 1, 1);
        row("size", new int[] {z.appeal(1, 1, 99), z.act(1, 4), z.act(1, 3), z.struckBy(1, 0), z.appeal(1, 1, 0), z.act(1, 4), z.struckBy(1, 0)},
            8, 99, 5, 1, 99, 0, 0);
        row("it is so", new int[] {z.appeal(0, 0, 9), z.appeal(0, 1, 8)}, -1, -1);
        row("none", new int[] {z.appeal(-1, 0, 1), z.appeal(2, 0, 1), z.appeal(7, 1, 1), z.appeal(0, 2, 1), z.appeal(0, -1, 1), z.appeal(0, 0, -1),
            z.appeal(0, 0, 10000), z.appeal(0, 1, 100), z.appeal(0, 1, -1), z.appeal(MAX, 0, 1), z.appeal(0, 0, MAX), z.appeal(0, 0, MIN)},
            -1, -1, -1, -1, -1, -1, -1, -1, -1, -1, -1, -1);
        due("about(11)", z.about(11), 3);
        row("bounds", new int[] {z.appeal(0, 0, 0), z.appeal(0, 0, 9999), z.appeal(0, 0, 1)}, 9, 0, 9999);
        row("facts follow", new int[] {z.fact(1, 8), z.fact(0, 8), z.appeal(0, 0, 5), z.fact(1, 8), z.appeal(0, 0, 6), z.fact(1, 8), z.fact(0, 8)},
            1, 0, 1, 1, 5, 0, 1);
        promise = 41;
        BatonZones w = of(RESULTS);
        row("waive", new int[] {w.struck(3, 2), w.waive(0), w.struck(3, 2), w.act(0, 5), w.result(0), w.waive(0), w.act(0, 5), w.result(0), w.about(11)},
            1, 1, 0, 1, 3, 0, 0, 2, 2);
        row("none", new int[] {w.waive(-1), w.waive(1), w.waive(2), w.waive(MAX), w.waive(MIN), w.about(11)}, -1, -1, -1, -1, -1, 2);
        row("a waived one is appealed", new int[] {w.waive(0), w.appeal(0, 1, 6), w.act(0, 5), w.who(0), w.waive(0), w.who(0)}, 1, 5, 1, 0, 0, 8);
    }

    // ---- 42

    private static void measures() {
        promise = 42;
        BatonZones z = of(RACE);
        row("measure", new int[] {z.measure(0, 1, 120, -20), z.leg(0, 1, 0), z.leg(0, 1, 2), z.leg(0, 2, 1), z.place(0, 120), z.team(0, 2),
            z.act(0, 3), z.act(0, 4), z.act(1, 3), z.about(11), z.rank(0), z.margin(1)}, 330, 120, -20, 220, 800, 330, 120, 10, 220, 1, 2, 25);
        row("it is so", new int[] {z.measure(0, 1, 120, -20), z.about(11)}, -1, 1);
        row("metres alone, tenths alone", new int[] {z.measure(0, 1, 120, 20), z.act(0, 4), z.measure(0, 1, 121, 20)}, 330, 5, 331);
        row("the last of all", new int[] {z.measure(0, 3, 110, 1), z.measure(0, 3, 110, -1), z.measure(0, 3, 111, 0), z.measure(2, 1, 20, 0),
            z.measure(2, 1, 999, 0)}, -1, -1, 332, 20, 999);
        row("none", new int[] {z.measure(0, 0, 50, 0), z.measure(0, 4, 50, 0), z.measure(2, 2, 50, 0), z.measure(3, 1, 50, 0), z.measure(-1, 1, 50, 0),
            z.measure(0, 1, 19, 0), z.measure(0, 1, 1000, 0), z.measure(0, 1, 50, 21), z.measure(0, 1, 50, -21), z.measure(0, 1, MIN, 0),
            z.measure(0, 1, 50, MIN), z.measure(MAX, MAX, 50, 0)}, -1, -1, -1, -1, -1, -1, -1, -1, -1, -1, -1, -1);
        due("about(11)", z.about(11), 6);
    }

    // ---- 43

    private static void undone() {
        promise = 43;
        BatonZones z = of(RACE + "act drop ann 7 8;act drop bob 7 8;rule x drop when size=9;");
        due("none yet", z.undo(), -1);
        z.appeal(0, 0, 70);
        z.appeal(0, 1, 9);
        z.waive(1);
        z.measure(1, 2, 50, 3);
        row("all told", new int[] {z.act(0, 3), z.act(0, 4), z.act(1, 5), z.team(1, 2), z.leg(1, 2, 2), z.who(0), z.about(11)}, 70, 9, 1, 260, 3, 1, 4);
        row("measure back", new int[] {z.undo(), z.team(1, 2), z.leg(1, 2, 2), z.leg(1, 2, 0), z.act(5, 3), z.act(1, 5)}, 3, 305, 12, 95, 205, 1);
        row("waive back", new int[] {z.undo(), z.act(1, 5), z.act(0, 4)}, 2, 0, 9);
        row("size back", new int[] {z.undo(), z.act(0, 4), z.who(0), z.act(0, 3)}, 1, 8, 0, 70);
        row("tenth back", new int[] {z.undo(), z.act(0, 3), z.undo(), z.about(11)}, 0, 7, -1, 0);
        for (int v = 20; v < 33; v++) {
            z.appeal(0, 0, v);
        }
        due("ten are kept", z.about(11), 10);
        all("undo", 1, 11, i -> z.undo(), 9, 8, 7, 6, 5, 4, 3, 2, 1, 0, -1);
        due("the eldest are gone", z.act(0, 3), 22);
        z.waive(0);
        z.waive(0);
        z.undo();
        row("undone and told again", new int[] {z.act(0, 5), z.about(11), z.waive(0), z.about(11), z.undo(), z.undo(), z.act(0, 5)}, 1, 1, 0, 2, 1, 0, 0);
        z.waive(0);
        feed(z, RACE);
        z.book();
        row("a new book has none", new int[] {z.about(11), z.undo()}, 0, -1);
    }
}
