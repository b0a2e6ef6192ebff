import java.math.BigInteger;
import java.util.ArrayList;
import java.util.Arrays;
import java.util.Comparator;
import java.util.List;
import java.util.TreeSet;

/**
 * Books and calls made up by a counter, each answered by BatonZones and by an Oracle that is written anew from the
 * document in the slowest and plainest way: it keeps whole copies for undo, looks at every tenth, tries every set.
 */
public final class OracleTest {
    private static int wrong = 0;
    private static long seed;
    private static final int[] EXTREMES = {Integer.MIN_VALUE, Integer.MIN_VALUE + 1, -2000000, -65536, -64, -2, -1, 6, 7, 8, 12, 31,
        32, 33, 42, 63, 64, 65, 99, 100, 256, 999, 1000, 9999, 10000, 65536, Integer.MAX_VALUE - 1, Integer.MAX_VALUE};

    private static int pick(int below) {
        seed = seed * 6364136223846793005L + 1442695040888963407L;
        return (int) ((seed >>> 33) % below);
    }

    private static int pick(int least, int most) {
        return least + pick(most - least + 1);
    }

    private static String one(String... of) {
        return of[pick(of.length)];
    }

    public static void main(String[] args) {
        int rounds = args.length > 1 ? Integer.parseInt(args[1]) : 160;
        int calls = 0;
        for (int round = 1; round <= rounds && wrong < 20; round++) {
            seed = round * 7919L + 17;
            calls += whole(round);
        }
        int texts = 0;
        for (int round = 1; round <= rounds * 48 && wrong < 20; round++) {
            seed = round * 104729L + 3;
            texts += faults(round);
        }
        System.out.println(calls + " calls and " + texts + " texts with faults compared, " + wrong + " wrong");
        if (wrong != 0) {
            System.exit(1);
        }
    }

    private static void compare(int round, String call, int got, int due, String text) {
        if (got != due) {
            wrong++;
            System.out.println("round " + round + ": " + call + " answered " + got + ", due is " + due + "\n" + text);
        }
    }

    // ---- one book and some hundred calls on it

    private static int whole(int round) {
        BatonZones zones = new BatonZones();
        Oracle oracle = new Oracle();
        int calls = 0;
        String text = "";
        int spoiled = pick(4);
        // with a spoiled text 506 calls at most
        for (int books = 0; books < 3; books++) {
            if (books == spoiled) {
                text = spoil(new Maker().text());
                text = text.substring(0, Math.min(text.length(), 700));
                calls += feed(round, zones, oracle, text);
                compare(round, "book()", zones.book(), oracle.book(), text);
            }
            text = new Maker().text();
            calls += feed(round, zones, oracle, text);
            compare(round, "book()", zones.book(), oracle.book(), text);
            if (oracle.fault != 0) {
                System.out.println("round " + round + ": made a faulty text, " + oracle.fault + " at " + oracle.faultPlace + "\n" + text);
                wrong++;
            }
            for (int k = 0; k < 119; k++) {
                int[] a = Calls.make(oracle, OracleTest::pick);
                if (pick(12) == 0) {
                    a[pick(1, 4)] = EXTREMES[pick(EXTREMES.length)];
                }
                compare(round, Calls.text(a), Calls.ask(zones, a), oracle.ask(a), text);
                calls++;
            }
        }
        return calls;
    }

    private static int feed(int round, BatonZones zones, Oracle oracle, String text) {
        int calls = 0;
        for (int i = 0; i < text.length(); i += 20) {
            int[] n = new int[5];
            for (int j = 0; j < 20; j++) {
                int b = i + j < text.length() ? text.charAt(i + j) : 0;
                n[j / 4] |= b << 24 - 8 * (j % 4);
            }
            compare(round, "feed", zones.feed(n[0], n[1], n[2], n[3], n[4]), oracle.feed(n), text);
            calls++;
        }
        compare(round, "end", zones.end(text.length()), oracle.end(text.length()), text);
        return calls + 1;
    }

    // ---- texts with faults

    private static int faults(int round) {
        BatonZones zones = new BatonZones();
        Oracle oracle = new Oracle();
        int texts = 0;
        for (int k = 0; k < 10; k++) {
            Maker maker = new Maker();
            maker.sharesNames = pick(3) == 0;
            int kind = pick(5);
            String text = kind < 2 ? maker.text() : kind < 4 ? maker.deepText() : maker.fullText();
            text = kind == 4 && pick(3) > 0 ? text : pick(4) == 0 ? spoilLines(text) : spoil(text);
            if (text.length() > 700) {
                continue;
            }
            feed(round, zones, oracle, text);
            compare(round, "book()", zones.book(), oracle.book(), text);
            compare(round, "fault(0)", zones.fault(0), oracle.fault, text);
            compare(round, "fault(1)", zones.fault(1), oracle.faultPlace, text);
            for (int what = 0; what <= 12; what++) {
                int[] a = {4, what, 0, 0, 0};
                compare(round, Calls.text(a), Calls.ask(zones, a), oracle.ask(a), text);
            }
            texts++;
        }
        return texts;
    }

    private static String spoil(String text) {
        for (int times = pick(1, 2); times > 0; times--) {
            List<String> parts = new ArrayList<>(Arrays.asList(text.split("(?<=[^a-z0-9])|(?=[^a-z0-9])")));
            int i = pick(parts.size());
            String token = one("team", "runs", "act", "rule", "through", "within", "track", "drop", "lane", "cut", "impede",
                "box", "when", "excuse", "and", "or", "not", "tenth", "size", "leg", "place", "other", "ahead", "again",
                "forced", "rank", "a", "b", "zz", "abcdefghi", "abcdefgh", "0", "1", "7", "10", "20", "21", "99", "100",
                "401", "9999", "10000", ";", "+", "-", "*", "(", ")", "{", "}", "<", ">", "=", " ", "\n", "\t", "A", "\0",
                "\u00e9", "[", "not not", "( (", "{ {", "1 < 2", "- 3");
            switch (pick(5)) {
                case 0: parts.remove(i); break;
                case 1: parts.set(i, token); break;
                case 2: parts.add(i, " " + token + " "); break;
                case 3: parts.add(i, parts.get(pick(parts.size()))); break;
                default: if (pick(4) == 0) { parts = new ArrayList<>(parts.subList(0, i)); } else { parts.add(i, token); } break;
            }
            text = String.join("", parts);
            if (text.isEmpty()) {
                text = ";";
            }
        }
        return text;
    }

    /** A line of the text stands in it once more. */
    private static String spoilLines(String text) {
        List<String> lines = new ArrayList<>(Arrays.asList(text.split("(?<=;)")));
        lines.add(pick(1, lines.size()), lines.get(pick(lines.size())));
        return String.join("", lines);
    }

    /** Makes texts of books that have no fault, but names of teams that rules share if these are asked for. */
    private static final class Maker {
        final StringBuilder out = new StringBuilder();
        int legs, length, cut, open;
        boolean sharesNames;

        String text() {
            legs = pick(2, pick(3) > 0 ? 3 : 6);
            length = pick(3) == 0 ? 50 : pick(50, 400);
            cut = pick(3) == 0 ? 0 : pick(0, length);
            int teams = pick(8) == 0 ? pick(0, 1) : pick(2, pick(3) > 0 ? 4 : 6);
            int[] told = new int[6];
            int[] lanes = {1, 2, 3, 4, 5, 6, 7, 8, 9};
            boolean alike = pick(3) == 0;
            boolean crowded = pick(3) == 0;
            boolean oneImpedes = crowded && pick(3) > 0;
            if (oneImpedes) {
                legs = 2;
                teams = pick(4, 6);
                alike = true;
            }
            out.append("track ").append(legs).append(' ').append(length).append(' ').append(pick(0, 20)).append(' ')
                .append(pick(0, 20)).append(' ').append(cut).append(pick(2) == 0 ? ";" : " ;\n");
            for (int t = 0; t < teams; t++) {
                int j = pick(t, 8);
                int lane = lanes[j];
                lanes[j] = lanes[t];
                lanes[t] = lane;
                line("team " + name(t) + " " + lane);
            }
            for (int i = 0; i < teams * legs; i++) {
                int t = pick(teams);
                if (pick(3) > 0) {
                    for (int u = 0; u < teams; u++) {
                        if (told[u] < told[t]) {
                            t = u;
                        }
                    }
                }
                if (told[t] < legs) {
                    told[t]++;
                    int metres = told[t] == legs ? 0 : pick(-20, 20);
                    int tenths = alike ? pick(100, 102) : pick(12) == 0 ? pick(20, 999) : pick(60, 200);
                    line("runs " + name(t) + " " + tenths + " " + (metres < 0 ? "-" + -metres : "" + metres));
                }
            }
            int acts = teams == 0 ? 0 : pick(3) == 0 ? pick(0, 12) : pick(0, 6);
            for (int i = 0; i < (oneImpedes ? pick(3, 6) : acts); i++) {
                int t = oneImpedes ? 0 : pick(teams);
                int kind = teams < 2 ? pick(3) : crowded || pick(3) == 0 ? 3 : pick(4);
                String other = kind == 3 ? " " + name((t + pick(1, teams - 1)) % teams) : "";
                int tenth = pick(20) == 0 ? pick(0, 9999) : pick(4) == 0 ? pick(0, legs * 150) : pick(0, 60);
                line("act " + KIND[kind] + " " + name(t) + other + " " + tenth + " " + pick(0, pick(2) == 0 ? 9 : 99));
            }
            if (pick(2) == 0) {
                line("through " + pick(1, oneImpedes ? 1 : 6));
            }
            if (pick(2) == 0) {
                line("within " + pick(0, 99));
            }
            if (crowded) {
                line("rule hh impede when " + one("size > 7", "lane < 4", "tenth > 30", "lane = 1 or other < 9 and not leg = 1"));
            }
            for (int i = pick(0, crowded ? 2 : 8); i > 0 && out.length() < 560; i--) {
                rule(i);
            }
            return out.toString();
        }

        /** A text with conditions nested as deep as may be, or a level deeper. */
        String deepText() {
            out.append("track 2 100 10 10 50;team a 1;team b 2;rule x drop when ");
            truth(pick(2, 8));
            if (pick(2) == 0) {
                out.append(" excuse ");
                truth(pick(1, 8));
            }
            out.append(";");
            return out.toString();
        }

        /** A text of as many lines of each sort as may be, of some sorts perhaps one more. */
        String fullText() {
            List<String> lines = new ArrayList<>();
            int teams = pick(1, 7);
            for (int t = 0; t < teams; t++) {
                lines.add("team " + name(t) + " " + (t + 1) + ";");
            }
            int sort = pick(4);
            for (int i = sort == 0 ? pick(11, 13) : pick(2); i > 0; i--) {
                lines.add(pick(0, lines.size()), "act lane a 1 2;");
            }
            for (int i = sort == 1 ? pick(7, 9) : pick(2); i > 0; i--) {
                lines.add(pick(0, lines.size()), "rule " + ruleName(i) + " box when 1<2;");
            }
            for (int i = sort == 2 ? pick(1, 4) : 0; i > 0; i--) {
                lines.add(pick(0, lines.size()), one("through 3;", "within 7;"));
            }
            for (int i = sort == 3 ? pick(2, 4) : pick(2); i > 0; i--) {
                lines.add(pick(1, lines.size()), "runs a 99 0;");
            }
            if (pick(3) > 0) {
                lines.sort(Comparator.comparing(l -> !l.startsWith("team")));
            }
            return "track 3 77 1 2 3;" + String.join(one("", " ", "\n"), lines);
        }

        static final String[] KIND = {"drop", "lane", "cut", "impede", "box"};
        static final String[] FACT = {"tenth", "size", "leg", "place", "lane", "other", "ahead", "cut", "again", "forced", "rank"};

        String name(int t) {
            return "abcdefghij".substring(t, t + 1) + (t % 2 == 0 ? "" : "xyz");
        }

        String ruleName(int i) {
            return sharesNames && pick(12) == 0 ? name(pick(6)) : "klmnopqrst".substring(i, i + 1) + (i % 2 == 0 ? "" : "xyz");
        }

        void line(String text) {
            if (out.length() + text.length() + 3 <= 700) {
                out.append(text).append(pick(5) == 0 ? " ;\n" : ";");
            }
        }

        void rule(int i) {
            int mark = out.length();
            out.append("rule ").append(ruleName(i)).append(' ').append(KIND[pick(5)]).append(" when ");
            open = 0;
            sound(pick(0, 3));
            if (pick(2) == 0) {
                out.append(" excuse ");
                open = 0;
                sound(pick(0, 2));
            }
            out.append(';');
            if (out.length() > 700) {
                out.setLength(mark);
            }
        }

        /** A condition with no more than six open. */
        void sound(int deep) {
            int kind = deep == 0 ? 3 : pick(6);
            if (kind == 0 && open < 5) {
                out.append("not ");
                open++;
                if (pick(2) == 0) {
                    comparison();
                } else {
                    out.append("( ");
                    open++;
                    sound(deep - 1);
                    open--;
                    out.append(')');
                }
                open--;
            } else if (kind < 3 && open < 5) {
                boolean round = pick(2) == 0;
                if (round) {
                    out.append('(');
                    open++;
                }
                sound(deep - 1);
                out.append(one(" and ", " or "));
                sound(deep - 1);
                if (round) {
                    out.append(')');
                    open--;
                }
            } else {
                comparison();
            }
        }

        void comparison() {
            number(pick(3) == 0 ? 2 : pick(2));
            out.append(one(" < ", " > ", " = ", "<", ">"));
            number(pick(2));
        }

        void number(int deep) {
            int kind = deep == 0 ? 0 : pick(5);
            if (kind < 2) {
                out.append(pick(5) < 3 ? FACT[pick(11)] : "" + (pick(3) == 0 ? pick(0, 9999) : pick(0, 9)));
            } else if (kind == 4 && open < 6) {
                out.append('{');
                open++;
                number(deep - 1);
                open--;
                out.append('}');
            } else {
                number(deep - 1);
                out.append(one("+", "-", "*", " * ", " - "));
                if (pick(6) == 0) {
                    out.append("9999*9999*99 + ");
                }
                number(deep - 1);
            }
        }

        /** A condition without regard to how many are open. */
        void truth(int deep) {
            switch (deep <= 0 ? 9 : pick(6)) {
                case 0: out.append("not "); truth(deep - 1); break;
                case 1: case 2: out.append("( "); truth(deep - 1); out.append(" ) "); break;
                case 3: truth(deep - 1); out.append(one(" and ", " or ")); truth(deep - 2); break;
                default: curly(deep - 1); out.append(one("<", ">", "=")); curly(deep - 2); break;
            }
        }

        void curly(int deep) {
            if (deep > 0 && pick(2) == 0) {
                out.append("{");
                curly(deep - 1);
                out.append("}");
            } else if (deep > 0 && pick(2) == 0) {
                curly(deep - 1);
                out.append(one("+", "-", "*"));
                curly(deep - 1);
            } else {
                out.append(one("size ", "3 "));
            }
        }
    }
}

/** Calls as rows of numbers: which one, and what it is asked. */
final class Calls {
    interface Picker {
        int pick(int below);
    }

    static final String[] NAME = {"feed", "end", "book", "fault", "about", "name", "team", "lane", "place", "comes", "order",
        "boldest", "changes", "cutIn", "behind", "crowd", "fastest", "leg", "inBox", "act", "fact", "rule", "holds", "why",
        "struckBy", "clean", "free", "struck", "rank", "result", "who", "would", "fairRank", "margin", "impeders", "again",
        "winner", "stays", "appeal", "waive", "measure", "undo"};

    static String text(int[] a) {
        return NAME[a[0]] + Arrays.toString(Arrays.copyOfRange(a, 1, a.length));
    }

    static int[] make(Oracle o, Picker p) {
        int call = 3 + p.pick(NAME.length - 3);
        if ((call == 37 || call == 26) && p.pick(3) > 0) {
            call = 38 + p.pick(4);
        }
        int team = p.pick(8) - 1;
        int act = p.pick(o.acts().size() + 2) - 1;
        int rule = p.pick(o.now.rules.size() + 2) - 1;
        int leg = p.pick(8) - 1;
        int tenth = p.pick(12) == 0 ? p.pick(10003) - 1 : p.pick(900) - 1;
        int few = p.pick(5) - 1;
        int place = p.pick(10) == 0 ? p.pick(26000) - 1 : p.pick(9000) - 1;
        switch (call) {
            case 3: return new int[] {call, few, 0, 0, 0};
            case 4: return new int[] {call, p.pick(15) - 1, 0, 0, 0};
            case 5: return new int[] {call, p.pick(4) - 1, p.pick(9) - 1, p.pick(11) - 1, 0};
            case 6: return new int[] {call, team, p.pick(6) - 1, 0, 0};
            case 7: return new int[] {call, p.pick(12) - 1, 0, 0, 0};
            case 8: return new int[] {call, team, tenth, 0, 0};
            case 9: return new int[] {call, team, place, 0, 0};
            case 10: return new int[] {call, tenth, p.pick(8) - 1, 0, 0};
            case 11: case 28: case 31: case 32: case 34: return new int[] {call, team, 0, 0, 0};
            case 12: return new int[] {call, team, p.pick(8) - 1, 0, 0};
            case 13: case 29: case 33: return new int[] {call, p.pick(9) - 1, 0, 0, 0};
            case 14: return new int[] {call, team, leg, 0, 0};
            case 15: return new int[] {call, tenth, p.pick(4) == 0 ? place : p.pick(300) - 1, 0, 0};
            case 16: return new int[] {call, leg, few, 0, 0};
            case 17: return new int[] {call, team, leg, p.pick(7) - 1, 0};
            case 18: return new int[] {call, team, tenth, 0, 0};
            case 19: return new int[] {call, act, p.pick(8) - 1, 0, 0};
            case 20: return new int[] {call, act, p.pick(13) - 1, 0, 0};
            case 21: return new int[] {call, rule, few, 0, 0};
            case 22: return new int[] {call, rule, p.pick(4) - 1, act, 0};
            case 23: return new int[] {call, rule, p.pick(4) - 1, act, p.pick(7) - 2};
            case 24: return new int[] {call, act, rule, 0, 0};
            case 25: case 26: return new int[] {call, act, few, 0, 0};
            case 27: return new int[] {call, team, few, 0, 0};
            case 30: return new int[] {call, p.pick(7) - 1, 0, 0, 0};
            case 36: return new int[] {call, act, 0, 0, 0};
            case 37: return new int[] {call, team, p.pick(4) - 1, 0, 0};
            case 38: return new int[] {call, p.pick(o.now.told.size() + 2) - 1, p.pick(4) - 1,
                p.pick(10) == 0 ? p.pick(10003) - 1 : p.pick(102) - 1, 0};
            case 39: return new int[] {call, p.pick(o.now.told.size() + 2) - 1, 0, 0, 0};
            case 40: return new int[] {call, team, leg, p.pick(8) == 0 ? p.pick(1003) : 60 + p.pick(100), p.pick(3) == 0 ? 0 : p.pick(44) - 22};
            default: return new int[] {call, 0, 0, 0, 0};
        }
    }

    static int ask(BatonZones z, int[] a) {
        int b = a[1];
        int c = a[2];
        int d = a[3];
        int e = a[4];
        switch (a[0]) {
            case 3: return z.fault(b);
            case 4: return z.about(b);
            case 5: return z.name(b, c, d);
            case 6: return z.team(b, c);
            case 7: return z.lane(b);
            case 8: return z.place(b, c);
            case 9: return z.comes(b, c);
            case 10: return z.order(b, c);
            case 11: return z.boldest(b);
            case 12: return z.changes(b, c);
            case 13: return z.cutIn(b);
            case 14: return z.behind(b, c);
            case 15: return z.crowd(b, c);
            case 16: return z.fastest(b, c);
            case 17: return z.leg(b, c, d);
            case 18: return z.inBox(b, c);
            case 19: return z.act(b, c);
            case 20: return z.fact(b, c);
            case 21: return z.rule(b, c);
            case 22: return z.holds(b, c, d);
            case 23: return z.why(b, c, d, e);
            case 24: return z.struckBy(b, c);
            case 25: return z.clean(b, c);
            case 26: return z.free(b, c);
            case 27: return z.struck(b, c);
            case 28: return z.rank(b);
            case 29: return z.result(b);
            case 30: return z.who(b);
            case 31: return z.would(b);
            case 32: return z.fairRank(b);
            case 33: return z.margin(b);
            case 34: return z.impeders(b);
            case 35: return z.again();
            case 36: return z.winner(b);
            case 37: return z.stays(b, c);
            case 38: return z.appeal(b, c, d);
            case 39: return z.waive(b);
            case 40: return z.measure(b, c, d, e);
            default: return z.undo();
        }
    }
}

/** What is known at one time; appeals make a new one. */
final class Known {
    int legs, length, before, after, cut, through = 2, within = 5;
    List<Runner> teams = new ArrayList<>();
    List<Deed> told = new ArrayList<>();
    List<Law> rules = new ArrayList<>();
    TreeSet<Integer> waived = new TreeSet<>();

    static final class Runner {
        String name;
        int lane;
        List<int[]> legs = new ArrayList<>();
        int[] places;

        Runner copy() {
            Runner r = new Runner();
            r.name = name;
            r.lane = lane;
            for (int[] l : legs) {
                r.legs.add(l.clone());
            }
            return r;
        }

        int time() {
            return legs.stream().mapToInt(l -> l[0]).sum();
        }
    }

    record Deed(int kind, int team, int other, int tenth, int size) {
    }

    record Law(String name, int kind, Node when, Node excuse) {
    }

    Known copy() {
        Known k = new Known();
        k.legs = legs;
        k.length = length;
        k.before = before;
        k.after = after;
        k.cut = cut;
        k.through = through;
        k.within = within;
        for (Runner r : teams) {
            k.teams.add(r.copy());
        }
        k.told.addAll(told);
        k.rules.addAll(rules);
        k.waived.addAll(waived);
        return k;
    }
}

/** A condition or a number as a tree; sides is null for a number as it stands. */
final class Node {
    String op;
    int value;
    List<Node> sides = new ArrayList<>();

    Node(String op, int value) {
        this.op = op;
        this.value = value;
    }

    int comparisons() {
        int n = "<>=".contains(op) ? 1 : 0;
        for (Node s : sides) {
            n += s.comparisons();
        }
        return n;
    }

    /** Null: beyond 32 bits. */
    BigInteger number(int[] facts) {
        if (op.equals("n")) {
            return BigInteger.valueOf(value);
        }
        if (op.equals("f")) {
            return BigInteger.valueOf(facts[value]);
        }
        BigInteger l = sides.get(0).number(facts);
        BigInteger r = sides.get(1).number(facts);
        if (l == null || r == null) {
            return null;
        }
        BigInteger n = op.equals("+") ? l.add(r) : op.equals("-") ? l.subtract(r) : l.multiply(r);
        return n.bitLength() > 31 ? null : n;
    }

    boolean so(int[] facts) {
        switch (op) {
            case "not": return !sides.get(0).so(facts);
            case "and": return sides.stream().allMatch(s -> s.so(facts));
            case "or": return sides.stream().anyMatch(s -> s.so(facts));
            default:
                BigInteger l = sides.get(0).number(facts);
                BigInteger r = sides.get(1).number(facts);
                if (l == null || r == null) {
                    return false;
                }
                int c = l.compareTo(r);
                return op.equals("<") ? c < 0 : op.equals(">") ? c > 0 : c == 0;
        }
    }

    TreeSet<Integer> reason(int[] facts) {
        TreeSet<Integer> out = new TreeSet<>();
        if (op.equals("not")) {
            return sides.get(0).reason(facts);
        }
        if (!op.equals("and") && !op.equals("or")) {
            out.add(value);
            return out;
        }
        boolean is = so(facts);
        if (is == op.equals("and")) {
            for (Node s : sides) {
                out.addAll(s.reason(facts));
            }
            return out;
        }
        out = null;
        for (Node s : sides) {
            if (s.so(facts) == is && (out == null || s.reason(facts).size() < out.size())) {
                out = s.reason(facts);
            }
        }
        return out;
    }
}

/** The document, read plainly. */
final class Oracle {
    static final int NONE = -1;
    static final int NO_SUCH = -2000000;
    static final List<String> LINES = List.of("track", "team", "runs", "act", "rule", "through", "within");
    static final List<String> KINDS = List.of("drop", "lane", "cut", "impede", "box");
    static final List<String> FACTS = List.of("tenth", "size", "leg", "place", "lane", "other", "ahead", "cut", "again", "forced", "rank");
    static final List<String> JOINS = List.of("when", "excuse", "and", "or", "not");

    List<Integer> tape = new ArrayList<>();
    Known now = new Known();
    List<Known> past = new ArrayList<>();
    int fault = 0;
    int faultPlace = NONE;

    int feed(int[] n) {
        if (tape.size() > 680) {
            return NONE;
        }
        for (int v : n) {
            tape.add(v >>> 24);
            tape.add(v >>> 16 & 255);
            tape.add(v >>> 8 & 255);
            tape.add(v & 255);
        }
        return tape.size();
    }

    int end(int n) {
        if (n < 0 || n > tape.size()) {
            return NONE;
        }
        tape = new ArrayList<>(tape.subList(0, n));
        return n;
    }

    int book() {
        StringBuilder text = new StringBuilder();
        for (int b : tape) {
            text.append((char) b);
        }
        tape.clear();
        fault = 0;
        faultPlace = NONE;
        Text t = new Text(text.toString());
        try {
            t.read();
        } catch (Text.Wrong w) {
            fault = w.kind;
            faultPlace = w.place;
            return NONE;
        }
        now = t.known;
        past.clear();
        return t.lines;
    }

    /** A text read by going down into what it is made of. */
    static final class Text {
        static final class Wrong extends RuntimeException {
            static final long serialVersionUID = 1;
            final int kind;
            final int place;

            Wrong(int kind, int place) {
                this.kind = kind;
                this.place = place;
            }
        }

        final List<String> tokens = new ArrayList<>();
        final List<Integer> places = new ArrayList<>();
        final Known known = new Known();
        int at = 0;
        int lines = 0;
        int open = 0;
        int comparisons = 0;
        boolean hasThrough, hasWithin;

        Text(String text) {
            int i = 0;
            while (i < text.length()) {
                char c = text.charAt(i);
                int from = i;
                i++;
                if (c == ' ' || c == '\n') {
                    continue;
                }
                boolean letter = c >= 'a' && c <= 'z';
                boolean digit = c >= '0' && c <= '9';
                while (i < text.length() && (letter && text.charAt(i) >= 'a' && text.charAt(i) <= 'z'
                    || digit && text.charAt(i) >= '0' && text.charAt(i) <= '9')) {
                    i++;
                }
                boolean bad = letter && i - from > 8 || digit && i - from > 4 || !letter && !digit && ";+-*(){}<>=".indexOf(c) < 0;
                tokens.add(bad ? "?" : text.substring(from, i));
                places.add(from);
            }
            tokens.add("");
            places.add(text.length());
        }

        Wrong wrong(int kind) {
            return new Wrong(tokens.get(at).equals("?") ? 1 : kind, places.get(at));
        }

        String here() {
            return tokens.get(at);
        }

        boolean isHere(String token) {
            return here().equals(token);
        }

        void must(String token) {
            if (!isHere(token)) {
                throw wrong(2);
            }
            at++;
        }

        int number(int least, int most) {
            if (!here().matches("[0-9]+")) {
                throw wrong(2);
            }
            int n = Integer.parseInt(here());
            if (n < least || n > most) {
                throw wrong(4);
            }
            at++;
            return n;
        }

        String name() {
            String n = here();
            if (!n.matches("[a-z]+") || LINES.contains(n) || KINDS.contains(n) || FACTS.contains(n) || JOINS.contains(n)) {
                throw wrong(2);
            }
            return n;
        }

        int teamNamed(String name) {
            for (int t = 0; t < known.teams.size(); t++) {
                if (known.teams.get(t).name.equals(name)) {
                    return t;
                }
            }
            return NONE;
        }

        boolean isNamed(String name) {
            return teamNamed(name) != NONE || known.rules.stream().anyMatch(r -> r.name().equals(name));
        }

        void read() {
            must("track");
            known.legs = number(2, 6);
            known.length = number(50, 400);
            known.before = number(0, 20);
            known.after = number(0, 20);
            known.cut = number(0, known.length);
            must(";");
            while (!isHere("")) {
                line();
                must(";");
                lines++;
            }
        }

        void line() {
            switch (here()) {
                case "team": {
                    if (known.teams.size() == 6) {
                        throw wrong(5);
                    }
                    at++;
                    Known.Runner r = new Known.Runner();
                    r.name = name();
                    if (isNamed(r.name)) {
                        throw wrong(3);
                    }
                    at++;
                    for (Known.Runner other : known.teams) {
                        if (isHere("" + other.lane) || here().matches("0+" + other.lane)) {
                            throw wrong(4);
                        }
                    }
                    r.lane = number(1, 9);
                    known.teams.add(r);
                    break;
                }
                case "runs": {
                    at++;
                    int t = teamNamed(name());
                    if (t == NONE) {
                        throw wrong(3);
                    }
                    Known.Runner r = known.teams.get(t);
                    if (r.legs.size() == known.legs) {
                        throw wrong(5);
                    }
                    at++;
                    int tenths = number(20, 999);
                    int sign = 1;
                    if (isHere("-")) {
                        at++;
                        sign = -1;
                    }
                    int most = r.legs.size() + 1 == known.legs ? 0 : 20;
                    r.legs.add(new int[] {tenths, sign * number(0, most)});
                    break;
                }
                case "act": {
                    if (known.told.size() == 12) {
                        throw wrong(5);
                    }
                    at++;
                    int kind = KINDS.indexOf(here());
                    if (kind < 0 || kind > 3) {
                        throw wrong(2);
                    }
                    at++;
                    int t = teamNamed(name());
                    if (t == NONE) {
                        throw wrong(3);
                    }
                    at++;
                    int other = NONE;
                    if (kind == 3) {
                        other = teamNamed(name());
                        if (other == NONE || other == t) {
                            throw wrong(3);
                        }
                        at++;
                    }
                    int tenth = number(0, 9999);
                    known.told.add(new Known.Deed(kind, t, other, tenth, number(0, 99)));
                    break;
                }
                case "rule": {
                    if (known.rules.size() == 8) {
                        throw wrong(5);
                    }
                    at++;
                    String n = name();
                    if (isNamed(n)) {
                        throw wrong(3);
                    }
                    at++;
                    int kind = KINDS.indexOf(here());
                    if (kind < 0) {
                        throw wrong(2);
                    }
                    at++;
                    must("when");
                    comparisons = 0;
                    Node when = truth();
                    Node excuse = null;
                    if (isHere("excuse")) {
                        at++;
                        comparisons = 0;
                        excuse = truth();
                    }
                    known.rules.add(new Known.Law(n, kind, when, excuse));
                    break;
                }
                case "through":
                    if (hasThrough) {
                        throw wrong(6);
                    }
                    hasThrough = true;
                    at++;
                    known.through = number(1, 6);
                    break;
                case "within":
                    if (hasWithin) {
                        throw wrong(6);
                    }
                    hasWithin = true;
                    at++;
                    known.within = number(0, 99);
                    break;
                default:
                    throw wrong(2);
            }
        }

        void opens() {
            if (open == 6) {
                throw wrong(7);
            }
            open++;
            at++;
        }

        Node truth() {
            Node n = new Node("or", 0);
            n.sides.add(both());
            while (isHere("or")) {
                at++;
                n.sides.add(both());
            }
            return n.sides.size() == 1 ? n.sides.get(0) : n;
        }

        Node both() {
            Node n = new Node("and", 0);
            n.sides.add(single());
            while (isHere("and")) {
                at++;
                n.sides.add(single());
            }
            return n.sides.size() == 1 ? n.sides.get(0) : n;
        }

        Node single() {
            if (isHere("not")) {
                opens();
                Node n = new Node("not", 0);
                n.sides.add(single());
                open--;
                return n;
            }
            if (isHere("(")) {
                opens();
                Node n = truth();
                must(")");
                open--;
                return n;
            }
            Node l = sum();
            if (!isHere("<") && !isHere(">") && !isHere("=")) {
                throw wrong(2);
            }
            Node n = new Node(here(), comparisons);
            comparisons++;
            at++;
            n.sides.add(l);
            n.sides.add(sum());
            return n;
        }

        Node sum() {
            Node l = product();
            while (isHere("+") || isHere("-")) {
                Node n = new Node(here(), 0);
                at++;
                n.sides.add(l);
                n.sides.add(product());
                l = n;
            }
            return l;
        }

        Node product() {
            Node l = unit();
            while (isHere("*")) {
                Node n = new Node("*", 0);
                at++;
                n.sides.add(l);
                n.sides.add(unit());
                l = n;
            }
            return l;
        }

        Node unit() {
            if (isHere("{")) {
                opens();
                Node n = sum();
                must("}");
                open--;
                return n;
            }
            if (FACTS.contains(here())) {
                Node n = new Node("f", FACTS.indexOf(here()));
                at++;
                return n;
            }
            return new Node("n", number(0, 9999));
        }
    }

    // ---- who is where

    Known.Runner team(int t) {
        return t >= 0 && t < now.teams.size() ? now.teams.get(t) : null;
    }

    int place(int t, int tenth) {
        return place(now, t, tenth);
    }

    static int place(Known k, int t, int tenth) {
        Known.Runner r = k.teams.get(t);
        if (r.places == null) {
            r.places = new int[10000];
            int begun = 0;
            int from = 0;
            for (int l = 1; l <= r.legs.size(); l++) {
                int to = 10 * (l * k.length + r.legs.get(l - 1)[1]);
                int tenths = r.legs.get(l - 1)[0];
                for (int i = 0; i <= tenths; i++) {
                    r.places[begun + i] = from + i * (to - from) / tenths;
                }
                begun += tenths;
                from = to;
            }
            for (int i = begun; i < 10000; i++) {
                r.places[i] = from;
            }
        }
        return r.places[tenth];
    }

    int comes(int t, int place) {
        for (int i = 0; i < 10000; i++) {
            if (place(t, i) >= place) {
                return i;
            }
        }
        return -2;
    }

    /** The k-th team of a list that is put in order by keys, then by lane. */
    int kth(List<int[]> keyed, int k) {
        keyed.sort(Comparator.<int[]>comparingInt(a -> a[0]).thenComparingInt(a -> now.teams.get(a[1]).lane));
        return k >= 0 && k < keyed.size() ? keyed.get(k)[1] : NONE;
    }

    int order(int tenth, int k) {
        List<int[]> keyed = new ArrayList<>();
        for (int t = 0; t < now.teams.size(); t++) {
            keyed.add(new int[] {-place(t, tenth), t});
        }
        return kth(keyed, k);
    }

    int boldest(int t) {
        if (now.teams.size() == 1) {
            return -2;
        }
        int best = 0;
        long most = Long.MIN_VALUE;
        for (int i = 0; i < 10000; i++) {
            int others = Integer.MIN_VALUE;
            for (int u = 0; u < now.teams.size(); u++) {
                if (u != t) {
                    others = Math.max(others, place(u, i));
                }
            }
            if (place(t, i) - others > most) {
                most = place(t, i) - others;
                best = i;
            }
        }
        return best;
    }

    int changes(int a, int b) {
        List<Boolean> ahead = new ArrayList<>();
        for (int i = 0; i < 10000; i++) {
            if (place(a, i) != place(b, i)) {
                ahead.add(place(a, i) > place(b, i));
            }
        }
        int n = 0;
        for (int i = 1; i < ahead.size(); i++) {
            if (ahead.get(i) != ahead.get(i - 1)) {
                n++;
            }
        }
        return n;
    }

    int cutIn(int k) {
        List<int[]> keyed = new ArrayList<>();
        for (int t = 0; t < now.teams.size() && now.cut > 0; t++) {
            int c = comes(t, 10 * (now.length + now.cut));
            if (c >= 0) {
                keyed.add(new int[] {c, t});
            }
        }
        return kth(keyed, k);
    }

    int behind(int t, int leg) {
        int line = leg * now.length * 10;
        int own = comes(t, line);
        int first = own;
        for (int u = 0; u < now.teams.size(); u++) {
            if (comes(u, line) >= 0) {
                first = Math.min(first, comes(u, line));
            }
        }
        return own < 0 ? -2 : own - first;
    }

    int crowd(int tenth, int within) {
        int most = 0;
        for (int set = 0; set < 1 << now.teams.size(); set++) {
            int least = Integer.MAX_VALUE;
            int greatest = Integer.MIN_VALUE;
            for (int t = 0; t < now.teams.size(); t++) {
                if ((set >> t & 1) == 1) {
                    least = Math.min(least, place(t, tenth));
                    greatest = Math.max(greatest, place(t, tenth));
                }
            }
            if (set == 0 || greatest - least <= within) {
                most = Math.max(most, Integer.bitCount(set));
            }
        }
        return most;
    }

    int fastest(int leg, int what) {
        List<int[]> keyed = new ArrayList<>();
        int sum = 0;
        for (int t = 0; t < now.teams.size(); t++) {
            if (leg >= 1 && leg <= now.teams.get(t).legs.size()) {
                keyed.add(new int[] {now.teams.get(t).legs.get(leg - 1)[0], t});
                sum += now.teams.get(t).legs.get(leg - 1)[0];
            }
        }
        int first = kth(keyed, 0);
        if (first == NONE) {
            return NONE;
        }
        return what == 0 ? first : what == 1 ? keyed.get(0)[0] : what == 2 ? sum : NONE;
    }

    int endOf(Known.Runner r, int leg) {
        return r.legs.subList(0, leg).stream().mapToInt(l -> l[0]).sum();
    }

    int passOf(Known.Runner r, int leg) {
        return leg == 0 ? 0 : 10 * (leg * now.length + r.legs.get(leg - 1)[1]);
    }

    int leg(int t, int leg, int what) {
        Known.Runner r = team(t);
        if (r == null || leg < 1 || leg > r.legs.size()) {
            return NONE;
        }
        switch (what) {
            case 0: return r.legs.get(leg - 1)[0];
            case 1: return endOf(r, leg);
            case 2: return r.legs.get(leg - 1)[1];
            case 3: return leg == 1 ? 0 : inside(r, leg, leg - 1);
            case 4: return leg == now.legs ? 0 : inside(r, leg, leg);
            default: return NONE;
        }
    }

    /** DM by DM. */
    int inside(Known.Runner r, int leg, int line) {
        int n = 0;
        for (int i = passOf(r, leg - 1); i < passOf(r, leg); i++) {
            if (i >= 10 * (line * now.length - now.before) && i < 10 * (line * now.length + now.after)) {
                n++;
            }
        }
        return n;
    }

    int inBox(int t, int tenth) {
        for (int line = 1; line < now.legs; line++) {
            int from = place(t, tenth) - 10 * line * now.length;
            if (from >= -10 * now.before && from <= 10 * now.after) {
                return 1;
            }
        }
        return 0;
    }

    // ---- acts

    List<Known.Deed> acts() {
        return acts(now);
    }

    static List<Known.Deed> acts(Known k) {
        List<Known.Deed> all = new ArrayList<>(k.told);
        for (int t = 0; t < k.teams.size(); t++) {
            int end = 0;
            for (int l = 1; l <= k.teams.get(t).legs.size() && l < k.legs; l++) {
                int[] leg = k.teams.get(t).legs.get(l - 1);
                end += leg[0];
                int outside = 0;
                while (leg[1] + outside < -k.before || leg[1] - outside > k.after) {
                    outside++;
                }
                all.add(new Known.Deed(4, t, NONE, end, outside));
            }
        }
        return all;
    }

    static int[] facts(Known k, int act) {
        List<Known.Deed> acts = acts(k);
        Known.Deed a = acts.get(act);
        Known.Runner r = k.teams.get(a.team());
        int place = place(k, a.team(), a.tenth());
        int leg = 1;
        int end = 0;
        for (int l = 1; l <= r.legs.size(); l++) {
            if (l > 1 && a.tenth() > end) {
                leg = l;
            }
            end += r.legs.get(l - 1)[0];
        }
        int again = 0;
        int forced = 0;
        for (int i = 0; i < acts.size(); i++) {
            Known.Deed b = acts.get(i);
            if (k.waived.contains(i)) {
                continue;
            }
            if (b.kind() == a.kind() && b.team() == a.team() && (b.tenth() < a.tenth() || b.tenth() == a.tenth() && i < act)) {
                again++;
            }
            if (b.kind() == 3 && b.other() == a.team() && b.tenth() <= a.tenth() && a.tenth() - b.tenth() <= 20) {
                forced++;
            }
        }
        int rank = 1;
        for (int t = 0; t < k.teams.size(); t++) {
            rank += place(k, t, a.tenth()) > place ? 1 : 0;
        }
        return new int[] {a.tenth(), a.size(), leg, place / 10, r.lane, a.other() < 0 ? 0 : k.teams.get(a.other()).lane,
            a.other() < 0 ? 0 : place - place(k, a.other(), a.tenth()), k.cut == 0 ? 0 : k.length + k.cut - place / 10,
            again, forced, rank};
    }

    static int strikes(Known k, int act) {
        int bits = 0;
        if (k.waived.contains(act)) {
            return 0;
        }
        int[] facts = facts(k, act);
        for (int r = 0; r < k.rules.size(); r++) {
            Known.Law law = k.rules.get(r);
            if (law.kind() == acts(k).get(act).kind() && law.when().so(facts) && (law.excuse() == null || !law.excuse().so(facts))) {
                bits |= 1 << r;
            }
        }
        return bits;
    }

    static boolean struckTeam(Known k, int t) {
        List<Known.Deed> acts = acts(k);
        for (int i = 0; i < acts.size(); i++) {
            if (acts.get(i).team() == t && strikes(k, i) != 0) {
                return true;
            }
        }
        return false;
    }

    int tally(int act, int what, int most, boolean sizes) {
        List<Integer> good = new ArrayList<>();
        for (int v = 0; v <= most; v++) {
            Known k = now.copy();
            for (int t = 0; t < k.teams.size(); t++) {
                k.teams.get(t).places = now.teams.get(t).places;
            }
            Known.Deed d = k.told.get(act);
            k.told.set(act, new Known.Deed(d.kind(), d.team(), d.other(), sizes ? d.tenth() : v, sizes ? v : d.size()));
            if (strikes(k, act) == 0) {
                good.add(v);
            }
        }
        return what == 0 ? good.size() : good.isEmpty() ? NONE : what == 1 ? good.get(0) : good.get(good.size() - 1);
    }

    // ---- results

    static boolean whole(Known k, int t) {
        return k.legs > 0 && k.teams.get(t).legs.size() == k.legs;
    }

    static List<Integer> results(Known k) {
        List<Integer> in = new ArrayList<>();
        for (int t = 0; t < k.teams.size(); t++) {
            if (whole(k, t) && !struckTeam(k, t)) {
                in.add(t);
            }
        }
        in.sort(Comparator.<Integer>comparingInt(t -> k.teams.get(t).time()).thenComparingInt(t -> k.teams.get(t).lane));
        return in;
    }

    int would(int t) {
        int w = now.teams.get(t).time();
        for (int i = 0; i < now.told.size(); i++) {
            if (now.told.get(i).kind() == 3 && now.told.get(i).other() == t && strikes(now, i) != 0) {
                w -= now.told.get(i).size();
            }
        }
        return w;
    }

    int rank(int t) {
        List<Integer> in = results(now);
        if (!in.contains(t)) {
            return -2;
        }
        return 1 + (int) in.stream().filter(u -> now.teams.get(u).time() < now.teams.get(t).time()).count();
    }

    int fairRank(int t) {
        List<Integer> in = results(now);
        if (!in.contains(t)) {
            return -2;
        }
        return 1 + (int) in.stream().filter(u -> would(u) < would(t)).count();
    }

    int impeders(int t) {
        int bits = 0;
        for (int i = 0; i < now.told.size(); i++) {
            if (now.told.get(i).kind() == 3 && now.told.get(i).other() == t && strikes(now, i) != 0) {
                bits |= 1 << now.told.get(i).team();
            }
        }
        return bits;
    }

    int who(int what) {
        int bits = 0;
        int last = 0;
        for (int t = 0; t < now.teams.size(); t++) {
            if (rank(t) > 0 && rank(t) <= now.through) {
                last = Math.max(last, now.teams.get(t).time());
            }
        }
        for (int t = 0; t < now.teams.size(); t++) {
            boolean through = rank(t) > 0 && rank(t) <= now.through;
            boolean impeded = impeders(t) != 0;
            boolean is = what == 0 ? struckTeam(now, t) : what == 1 ? through : what == 2 ? impeded
                : what == 3 ? rank(t) > 0 && impeded && !through && would(t) <= last + now.within : whole(now, t);
            bits |= is ? 1 << t : 0;
        }
        return bits;
    }

    int again() {
        if (who(4) == 0) {
            return 0;
        }
        if (Integer.bitCount(who(3)) >= 2) {
            return 1;
        }
        for (int t = 0; t < now.teams.size(); t++) {
            if (whole(now, t) && !struckTeam(now, t) && impeders(t) == 0) {
                return 0;
            }
        }
        return 1;
    }

    int struck(int t, int what) {
        List<Known.Deed> acts = acts();
        int first = -2;
        int n = 0;
        for (int i = 0; i < acts.size(); i++) {
            if (acts.get(i).team() == t && strikes(now, i) != 0) {
                n++;
                if (first < 0 || acts.get(i).tenth() < acts.get(first).tenth()) {
                    first = i;
                }
            }
        }
        if (what == 1 && first >= 0) {
            for (int r = 0; ; r++) {
                if ((strikes(now, first) >> r & 1) == 1) {
                    return r;
                }
            }
        }
        return what == 2 ? n : what == 0 || what == 1 ? first : NONE;
    }

    int stays(int t, int what) {
        int told = now.told.size();
        for (int count = 0; count <= told; count++) {
            for (int set = 0; set < 1 << told; set++) {
                if (Integer.bitCount(set) != count) {
                    continue;
                }
                Known k = now.copy();
                boolean besides = true;
                for (int i = 0; i < told; i++) {
                    if ((set >> i & 1) == 1) {
                        besides &= k.waived.add(i);
                    }
                }
                for (int u = 0; u < k.teams.size(); u++) {
                    k.teams.get(u).places = now.teams.get(u).places;
                }
                if (besides && !struckTeam(k, t)) {
                    return what == 0 ? count : set;
                }
            }
        }
        return -2;
    }

    int winner(int act) {
        Known k = now.copy();
        if (!k.waived.remove(act)) {
            k.waived.add(act);
        }
        List<Integer> in = results(k);
        return in.isEmpty() ? -2 : in.get(0);
    }

    // ---- appeals

    void keep(Known next) {
        past.add(now);
        if (past.size() > 10) {
            past.remove(0);
        }
        now = next;
    }

    int appeal(int act, int what, int v) {
        if (act < 0 || act >= now.told.size() || what < 0 || what > 1 || v < 0 || v > (what == 0 ? 9999 : 99)) {
            return NONE;
        }
        Known.Deed d = now.told.get(act);
        int was = what == 0 ? d.tenth() : d.size();
        if (was == v) {
            return NONE;
        }
        Known k = now.copy();
        k.told.set(act, new Known.Deed(d.kind(), d.team(), d.other(), what == 0 ? v : d.tenth(), what == 1 ? v : d.size()));
        keep(k);
        return was;
    }

    int waive(int act) {
        if (act < 0 || act >= now.told.size()) {
            return NONE;
        }
        Known k = now.copy();
        boolean off = k.waived.remove(act);
        if (!off) {
            k.waived.add(act);
        }
        keep(k);
        return off ? 0 : 1;
    }

    int measure(int t, int leg, int tenths, int metres) {
        Known.Runner r = team(t);
        if (r == null || leg < 1 || leg > r.legs.size() || tenths < 20 || tenths > 999
            || metres < (leg == now.legs ? 0 : -20) || metres > (leg == now.legs ? 0 : 20)) {
            return NONE;
        }
        if (r.legs.get(leg - 1)[0] == tenths && r.legs.get(leg - 1)[1] == metres) {
            return NONE;
        }
        Known k = now.copy();
        k.teams.get(t).legs.set(leg - 1, new int[] {tenths, metres});
        keep(k);
        return now.teams.get(t).time();
    }

    int undo() {
        if (past.isEmpty()) {
            return NONE;
        }
        now = past.remove(past.size() - 1);
        return past.size();
    }

    // ---- the calls

    int about(int what) {
        int[] all = {now.legs, now.length, now.before, now.after, now.cut, now.teams.size(), acts().size(), now.told.size(),
            now.rules.size(), now.through, now.within, past.size(), tape.size()};
        return what >= 0 && what < all.length ? all[what] : NONE;
    }

    int name(int kind, int k, int i) {
        String n = kind == 0 && team(k) != null ? team(k).name
            : kind == 1 && k >= 0 && k < now.rules.size() ? now.rules.get(k).name() : null;
        return n == null || i < 0 ? NONE : i < n.length() ? n.charAt(i) - 'a' + 1 : 0;
    }

    int teamCall(int t, int what) {
        Known.Runner r = team(t);
        int[] all = r == null ? new int[0] : new int[] {r.lane, r.legs.size(), r.time(), whole(now, t) ? 1 : 0};
        return what >= 0 && what < all.length ? all[what] : NONE;
    }

    int act(int act, int what) {
        Known.Deed d = acts().get(act);
        int[] all = {d.kind(), d.team(), d.other(), d.tenth(), d.size(), now.waived.contains(act) ? 1 : 0};
        return what >= 0 && what < all.length ? all[what] : NO_SUCH;
    }

    int rule(int rule, int what) {
        Known.Law law = now.rules.get(rule);
        int[] all = {law.kind(), law.when().comparisons(), law.excuse() == null ? NONE : law.excuse().comparisons()};
        return what >= 0 && what < all.length ? all[what] : NO_SUCH;
    }

    int why(int rule, int part, int act, int i, boolean holds) {
        Node n = part == 0 ? now.rules.get(rule).when() : part == 1 ? now.rules.get(rule).excuse() : null;
        if (n == null) {
            return NO_SUCH;
        }
        int[] facts = facts(now, act);
        if (holds) {
            return n.so(facts) ? 1 : 0;
        }
        List<Integer> r = new ArrayList<>(n.reason(facts));
        return i == NONE ? r.size() : i >= 0 && i < r.size() ? r.get(i) : NONE;
    }

    int ask(int[] a) {
        int b = a[1];
        int c = a[2];
        int d = a[3];
        boolean isTeam = team(b) != null;
        boolean isAct = b >= 0 && b < acts().size();
        boolean isTold = b >= 0 && b < now.told.size();
        boolean isRule = b >= 0 && b < now.rules.size();
        boolean tenthFirst = b >= 0 && b < 10000;
        boolean tenthSecond = c >= 0 && c < 10000;
        switch (a[0]) {
            case 3: return b == 0 ? fault : b == 1 ? faultPlace : NONE;
            case 4: return about(b);
            case 5: return name(b, c, d);
            case 6: return teamCall(b, c);
            case 7: return now.teams.indexOf(now.teams.stream().filter(r -> r.lane == b).findFirst().orElse(null));
            case 8: return isTeam && tenthSecond ? place(b, c) : NONE;
            case 9: return isTeam && c >= 0 ? comes(b, c) : NONE;
            case 10: return tenthFirst ? order(b, c) : NONE;
            case 11: return isTeam ? boldest(b) : NONE;
            case 12: return isTeam && team(c) != null && b != c ? changes(b, c) : NONE;
            case 13: return cutIn(b);
            case 14: return isTeam && c >= 1 && c <= now.legs ? behind(b, c) : NONE;
            case 15: return tenthFirst && c >= 0 ? crowd(b, c) : NONE;
            case 16: return fastest(b, c);
            case 17: return leg(b, c, d);
            case 18: return isTeam && tenthSecond ? inBox(b, c) : NONE;
            case 19: return isAct ? act(b, c) : NO_SUCH;
            case 20: return isAct && c >= 0 && c < 11 ? facts(now, b)[c] : NO_SUCH;
            case 21: return isRule ? rule(b, c) : NO_SUCH;
            case 22: case 23: return isRule && d >= 0 && d < acts().size() ? why(b, c, d, a[4], a[0] == 22) : NO_SUCH;
            case 24: return isAct && c >= 0 && c < now.rules.size() ? strikes(now, b) >> c & 1 : NO_SUCH;
            case 25: return isTold && c >= 0 && c < 3 ? tally(b, c, 99, true) : NO_SUCH;
            case 26: return isTold && c >= 0 && c < 3 ? tally(b, c, 999, false) : NO_SUCH;
            case 27: return isTeam ? struck(b, c) : NONE;
            case 28: return isTeam ? rank(b) : NONE;
            case 29: return b >= 0 && b < results(now).size() ? results(now).get(b) : NONE;
            case 30: return b >= 0 && b < 5 ? who(b) : NONE;
            case 31: return !isTeam ? NONE : whole(now, b) ? would(b) : -2;
            case 32: return isTeam ? fairRank(b) : NONE;
            case 33: return b >= 1 && b < results(now).size()
                ? now.teams.get(results(now).get(b)).time() - now.teams.get(results(now).get(b - 1)).time() : NONE;
            case 34: return isTeam ? impeders(b) : NONE;
            case 35: return again();
            case 36: return isAct ? winner(b) : NONE;
            case 37: return isTeam && c >= 0 && c < 2 ? stays(b, c) : NONE;
            case 38: return appeal(b, c, d);
            case 39: return waive(b);
            case 40: return measure(b, c, d, a[4]);
            default: return undo();
        }
    }
}
