import java.util.Arrays;
import java.util.Set;
import java.util.TreeSet;

/**
 * What the tests of bounds share: a sentence of the document is said first, then come the answers that are due by it.
 * No object is asked more than 512 calls, as the document promises nothing behind these: sight() takes some 300 of them.
 */
final class Due {
    static final int NONE = -1;
    static final int NEVER = -2;
    static final int NO = -2000000;
    static final int MAX = Integer.MAX_VALUE;
    static final int MIN = Integer.MIN_VALUE;

    private static final Set<String> parts = new TreeSet<>();
    private static String sentence = "";
    private static int sentences = 0;
    private static int answers = 0;
    private static int wrong = 0;

    interface Call {
        int ask(int n);
    }

    private Due() {
    }

    /** The promise (or part of the terms) and the sentence that the answers behind it are due by. */
    static void says(Object part, String what) {
        parts.add("" + part);
        sentence = part + ": " + what;
        sentences++;
    }

    static void is(int got, int want) {
        answers++;
        if (got != want) {
            report("answered " + got + ", due is " + want);
        }
    }

    static void are(int[] got, int... want) {
        answers += want.length;
        if (!Arrays.equals(got, want)) {
            report("answered " + Arrays.toString(got) + ", due is " + Arrays.toString(want));
        }
    }

    static int[] of(int... got) {
        return got;
    }

    /** What a call answers for least .. most. */
    static void all(int least, int most, Call call, int... want) {
        int[] got = new int[most - least + 1];
        for (int n = least; n <= most; n++) {
            got[n - least] = call.ask(n);
        }
        are(got, want);
    }

    /** A number that a call takes from least to most: beyond these it answers as refused, from one to the other not. */
    static void edges(int least, int most, int refused, Call call) {
        from(least, refused, call);
        is(call.ask(most) == refused ? 1 : 0, 0);
        is(call.ask(most + 1), refused);
        is(call.ask(most + 2), refused);
        is(call.ask(MAX), refused);
    }

    /** A number that a call takes from least on. */
    static void from(int least, int refused, Call call) {
        is(call.ask(MIN), refused);
        is(call.ask(least - 2), refused);
        is(call.ask(least - 1), refused);
        is(call.ask(least) == refused ? 1 : 0, 0);
    }

    private static void report(String what) {
        wrong++;
        StackTraceElement[] trace = new Throwable().getStackTrace();
        int i = 0;
        while (i < trace.length - 1 && trace[i].getClassName().equals("Due")) {
            i++;
        }
        System.out.println(trace[i].getFileName() + ":" + trace[i].getLineNumber() + ": " + what + "\n    " + sentence);
    }

    // ---- texts

    /** The text on the tape, behind what is there. */
    static void feed(BatonZones zones, String text) {
        int before = zones.about(12);
        for (int i = 0; i < text.length(); i += 20) {
            int[] n = new int[5];
            for (int j = 0; j < 20 && i + j < text.length(); j++) {
                n[j / 4] |= text.charAt(i + j) << 24 - 8 * (j % 4);
            }
            zones.feed(n[0], n[1], n[2], n[3], n[4]);
        }
        zones.end(before + text.length());
    }

    static int told(BatonZones zones, String text) {
        feed(zones, text);
        return zones.book();
    }

    /** A new object with a book that has no fault. */
    static BatonZones book(String text) {
        BatonZones zones = new BatonZones();
        if (told(zones, text) < 0) {
            report("fault " + zones.fault(0) + " at " + zones.fault(1) + " of " + text);
        }
        return zones;
    }

    /** A text without a fault and how many lines it has. */
    static void good(String text, int lines) {
        BatonZones zones = new BatonZones();
        feed(zones, text);
        int bytes = zones.about(12);
        int got = zones.book();
        answers++;
        if (bytes != text.length() || got != lines || zones.fault(0) != 0 || zones.fault(1) != NONE || zones.about(12) != 0) {
            report(got + " lines, fault " + zones.fault(0) + " at " + zones.fault(1) + ", due are " + lines + " of " + text);
        }
    }

    /** A fault at a place of a text; behind it the tape is empty, and the book told before is as it was. */
    static void fault(int kind, int place, String text) {
        BatonZones zones = new BatonZones();
        told(zones, "track 3 61 7 8 9;team q 7;");
        feed(zones, text);
        int bytes = zones.about(12);
        int lines = zones.book();
        int[] got = {bytes, lines, zones.fault(0), zones.fault(1), zones.about(12), zones.about(0), zones.about(1), zones.about(5), zones.lane(7)};
        int[] want = {text.length(), NONE, kind, place, 0, 3, 61, 1, 0};
        answers++;
        if (!Arrays.equals(got, want)) {
            report("bytes, lines, fault, place .. " + Arrays.toString(got) + ", due are " + Arrays.toString(want) + " of " + text);
        }
    }

    /** A fault at the sign ^ that is taken out of the text. */
    static void fault(int kind, String marked) {
        int place = marked.indexOf('^');
        fault(kind, place, marked.substring(0, place) + marked.substring(place + 1));
    }

    /** A number that stands in a text from least to most. */
    static void number(String ahead, int least, int most, String behind) {
        int lines = (int) behind.chars().filter(c -> c == ';').count() + (int) ahead.chars().filter(c -> c == ';').count() - 1;
        good(ahead + least + behind, lines);
        good(ahead + most + behind, lines);
        if (least > 0) {
            fault(4, ahead.length(), ahead + (least - 1) + behind);
        }
        int more = most + 1;
        fault(more > 9999 ? 1 : 4, ahead.length(), ahead + more + behind);
    }

    /** The text with blanks behind it till it has so many bytes. */
    static String filled(String text, int bytes) {
        return text + " ".repeat(bytes - text.length());
    }

    // ---- all that can be seen of an object

    /** Of what is told with at most 10 acts, 4 teams, 3 legs, 3 rules; the last of these answers undo what can be undone. */
    static int[] sight(BatonZones z) {
        int[] row = new int[420];
        int n = 0;
        for (int i = 0; i <= 12; i++) {
            row[n++] = z.about(i);
        }
        row[n++] = z.again();
        for (int t = 0; t < 4; t++) {
            for (int i = 0; i <= 3; i++) {
                row[n++] = z.team(t, i);
            }
            for (int call : new int[] {z.name(0, t, 0), z.name(1, t, 0), z.rule(t, 0), z.rule(t, 1), z.rule(t, 2), z.place(t, 55), z.place(t, 9999),
                z.rank(t), z.would(t), z.fairRank(t), z.impeders(t), z.struck(t, 0), z.struck(t, 1), z.struck(t, 2), z.result(t), z.who(t)}) {
                row[n++] = call;
            }
            for (int leg = 1; leg <= 3; leg++) {
                row[n++] = z.leg(t, leg, 0);
                row[n++] = z.leg(t, leg, 2);
            }
        }
        for (int act = 0; act < 10; act++) {
            for (int i = 0; i <= 5; i++) {
                row[n++] = z.act(act, i);
            }
            for (int k = 7; k <= 10; k++) {
                row[n++] = z.fact(act, k);
            }
            for (int r = 0; r < 3; r++) {
                row[n++] = z.struckBy(act, r);
            }
        }
        for (int i = 0; i < 11; i++) {
            row[n++] = z.undo();
            row[n++] = z.act(0, 3);
            row[n++] = z.act(0, 4);
            row[n++] = z.act(0, 5);
            row[n++] = z.leg(0, 1, 0);
        }
        return Arrays.copyOf(row, n);
    }

    /** Two objects that were told the same: what one of them was asked besides must not be seen. */
    static void same(BatonZones asked, BatonZones other) {
        answers++;
        int[] got = sight(asked);
        int[] want = sight(other);
        if (!Arrays.equals(got, want)) {
            report("seen is " + Arrays.toString(got) + ", due is " + Arrays.toString(want));
        }
    }

    /** The end of a test: what it looked at, and that no part of the document was left out. */
    static void close(String... due) {
        for (String part : due) {
            if (!parts.contains(part)) {
                sentence = part;
                report("no sentence of it is tested");
            }
        }
        System.out.println(sentences + " sentences, " + answers + " answers, " + wrong + " wrong");
        if (wrong != 0) {
            System.exit(1);
        }
    }
}
