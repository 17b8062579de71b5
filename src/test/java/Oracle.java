import java.util.ArrayList;
import java.util.Arrays;
import java.util.List;

/**
 * The document once more, told as plainly as can be and by other means than the class: sets are found by trying all of
 * them, orders by trying all of them, a text's fault by a stack of what is open, its value by splitting it.
 */
final class Oracle {
    static final int NONE = -1, BAD = -2, STATE = -3, FULL = -4;
    static final long NO = -4611686018427387904L;

    /** More ACTS than this make trying all sets too slow; runs against the oracle keep below it. */
    static final int MOST_ACTS = 9;

    private record Turn(int land, int from, int side) { }
    private record Payment(int office, int person, int coins, int day) { }
    private record Elector(int price, boolean ours) { }
    private record Token(String word, int at) { }
    private record Text(List<Token> binds, List<Token> saved) { }

    private static final class Act {
        int kind, by, on, day, faith;
        int lifted = -1;
        final List<Integer> hangs = new ArrayList<>();
    }

    private static final class Clause {
        int undoes;
        final int[] worth = new int[8];
    }

    private final int[][] roads = new int[8][8];
    private final List<Integer> persons = new ArrayList<>();
    private final int[] officeLand = new int[6];
    private final int[] sits = {-1, -1, -1, -1, -1, -1};
    private final List<Turn> turns = new ArrayList<>();
    private final List<Act> acts = new ArrayList<>();
    private final List<Payment> payments = new ArrayList<>();
    private final List<Elector> electors = new ArrayList<>();
    private final boolean[][] clash = new boolean[10][10];
    private final int[] seats = new int[8];
    private final List<Clause> clauses = new ArrayList<>();
    private final boolean[][] against = new boolean[8][8];
    private final int[] bounds = new int[8];
    private final List<Text> texts = new ArrayList<>();
    private final int[] rules = new int[3];
    private String tape = "";
    private final Object[] sheets = new Object[4];

    Oracle() {
        for (int[] row : roads) Arrays.fill(row, 999);
        texts.add(new Text(List.of(new Token("same", 0)), List.of(new Token("faith", 0))));
    }

    private static boolean in(int n, int low, int high) {
        return low <= n && n <= high;
    }

    private boolean noPerson(int p) {
        return !in(p, 0, persons.size() - 1);
    }

    private boolean noAct(int a) {
        return !in(a, 0, acts.size() - 1);
    }

    int road(int a, int b, int days) {
        if (!in(a, 0, 7) || !in(b, 0, 7) || a == b || !(in(days, 1, 99) || days == 999)) return BAD;
        int was = roads[a][b];
        roads[a][b] = roads[b][a] = days;
        return was;
    }

    int far(int a, int b) {
        if (!in(a, 0, 7) || !in(b, 0, 7)) return BAD;
        int[] d = new int[8];
        Arrays.fill(d, 100000);
        d[a] = 0;
        for (int round = 0; round < 8; round++) {
            for (int u = 0; u < 8; u++) {
                for (int v = 0; v < 8; v++) if (roads[u][v] != 999) d[v] = Math.min(d[v], d[u] + roads[u][v]);
            }
        }
        return d[b] >= 100000 ? 999 : d[b];
    }

    int person(int land) {
        if (!in(land, 0, 7)) return BAD;
        if (persons.size() == 12) return FULL;
        persons.add(land);
        return persons.size() - 1;
    }

    int office(int office, int land) {
        if (!in(office, 0, 5) || !in(land, 0, 7)) return BAD;
        int was = officeLand[office];
        officeLand[office] = land;
        return was;
    }

    int seat(int office, int person) {
        if (!in(office, 0, 5) || !in(person, -1, persons.size() - 1)) return -5;
        int was = sits[office];
        sits[office] = person;
        return was;
    }

    int officeTold(int office, int what) {
        if (!in(office, 0, 5)) return BAD;
        return what == 0 ? officeLand[office] : what == 1 ? sits[office] : BAD;
    }

    int turn(int land, int from, int side) {
        if (!in(land, 0, 7) || !in(from, 0, 9999) || !in(side, 0, 1)) return BAD;
        if (turns.size() == 30) return FULL;
        turns.add(new Turn(land, from, side));
        return turns.size() - 1;
    }

    int side(int land, int day) {
        if (!in(land, 0, 7) || !in(day, 0, 9999)) return BAD;
        for (int from = day; from >= 0; from--) {
            for (int t = turns.size() - 1; t >= 0; t--) {
                if (turns.get(t).land == land && turns.get(t).from == from) return turns.get(t).side;
            }
        }
        return 0;
    }

    int changed(int land, int from, int side) {
        if (!in(land, 0, 7) || !in(from, 0, 9999) || !in(side, 0, 1)) return BAD;
        int[] before = {sound(0), sound(1)};
        turns.add(new Turn(land, from, side));
        int differ = before[0] ^ sound(0) | before[1] ^ sound(1);
        turns.remove(turns.size() - 1);
        return differ;
    }

    int act(int kind, int by, int on, int day, int faith) {
        if (!in(kind, 0, 5) || noPerson(by) || !in(day, 0, 9999) || !in(faith, 0, 1)) return BAD;
        if (kind == 1 ? !in(on, 0, 71) || noPerson(on % 12) : !in(on, 0, 99)) return BAD;
        if (acts.size() == 24) return FULL;
        Act a = new Act();
        a.kind = kind;
        a.by = by;
        a.on = on;
        a.day = day;
        a.faith = faith;
        acts.add(a);
        return acts.size() - 1;
    }

    int hang(int act, int other) {
        if (noAct(act) || noAct(other) || act == other) return BAD;
        List<Integer> hangs = acts.get(act).hangs;
        if (hangs.contains(other)) return STATE;
        hangs.add(other);
        return hangs.size();
    }

    int lift(int act, int day) {
        if (noAct(act) || !in(day, acts.get(act).day, 9999)) return BAD;
        if (acts.get(act).kind != 4) return -13;
        if (acts.get(act).lifted >= 0) return STATE;
        acts.get(act).lifted = day;
        return lasts(acts.get(act));
    }

    private static int lasts(Act a) {
        if (a.kind <= 1) return 9999;
        if (a.kind == 3) return 300;
        if (a.kind == 5) return 3 * 300;
        return a.kind == 4 && a.lifted >= 0 ? a.lifted - a.day : 1000;
    }

    private static int rank(int kind) {
        return switch (kind) {
            case 1 -> rank(0) + 2;
            case 2 -> rank(0) + 1;
            case 3 -> rank(0);
            case 4 -> 2 * rank(2);
            case 5 -> rank(0) + 4;
            default -> 1;
        };
    }

    int actTold(int act, int what) {
        if (noAct(act) || !in(what, 0, 7)) return BAD;
        Act a = acts.get(act);
        int bits = 0;
        for (int h : a.hangs) bits |= 1 << h;
        return new int[] {a.kind, a.by, a.on, a.day, a.faith, rank(a.kind), lasts(a), bits}[what];
    }

    int feed(int n, long bytes) {
        if (!in(n, 1, 8)) return BAD;
        if (tape.length() + n > 160) return FULL;
        for (int i = 0; i < n; i++) tape += (char) (bytes >>> 8 * i & 255);
        return tape.length();
    }

    int text() {
        if (texts.size() == 6) return FULL;
        List<Token> tokens = new ArrayList<>();
        int fault = tokenise(tokens);
        int size = tape.length();
        int misplaced = misplaced(tokens, fault >= 0 ? Integer.MAX_VALUE : size);
        tape = "";
        if (misplaced >= 0 && misplaced < Integer.MAX_VALUE) return -100 - misplaced;
        if (fault >= 0) return -100 - fault;
        int cut = 0;
        while (!tokens.get(cut).word.equals(";")) cut++;
        texts.add(new Text(tokens.subList(1, cut), tokens.subList(cut + 2, tokens.size() - 1)));
        return texts.size() - 1;
    }

    /** Fills in the tokens up to the first that is none; answers its place, or -1. */
    private int tokenise(List<Token> tokens) {
        List<String> known = List.of("binds", "saved", "or", "and", "not", "kind", "day", "rank", "same", "hangs", "faith");
        int at = 0;
        while (at < tape.length()) {
            String rest = tape.substring(at);
            String word = rest.replaceFirst("(?s)^([a-z]+|[0-9]+|[();+*<=-]|[ \n]+)?.*$", "$1");
            if (word.isEmpty()) return at;
            char c = word.charAt(0);
            if (c >= 'a' && !known.contains(word)) return at;
            if (Character.isDigit(c) && word.length() > 4) return at;
            if (c != ' ' && c != '\n') tokens.add(new Token(word, at));
            at += word.length();
        }
        return -1;
    }

    /** The place of the first token that can't stand there, the end told if they are too few, or -1. */
    private static int misplaced(List<Token> tokens, int end) {
        int t = 0;
        for (String key : new String[] {"binds", "saved"}) {
            if (t >= tokens.size()) return end;
            if (!tokens.get(t).word.equals(key)) return tokens.get(t).at;
            t = behindExpression(tokens, t + 1);
            if (t < 0) return -1 - t;
            if (t > tokens.size()) return end;
        }
        return t < tokens.size() ? tokens.get(t).at : -1;
    }

    /** The token behind the ; that ends an E; above all tokens if there is none; -1 less a fault's place. */
    private static int behindExpression(List<Token> tokens, int from) {
        StringBuilder open = new StringBuilder();
        List<Boolean> compared = new ArrayList<>(List.of(false));
        boolean needed = true;
        boolean mayNot = true;
        for (int t = from; t < tokens.size(); t++) {
            String w = tokens.get(t).word;
            int fault = -1 - tokens.get(t).at;
            int level = compared.size() - 1;
            if (needed) {
                if (w.equals("(") || w.equals("-") || w.equals("not")) {
                    if (open.length() == 5 || w.equals("not") && !mayNot) return fault;
                    open.append(w.charAt(0));
                    if (w.equals("(")) compared.add(false);
                    mayNot = !w.equals("-");
                } else if (isAtom(w)) {
                    needed = false;
                    closeAll(open, '-');
                } else {
                    return fault;
                }
                continue;
            }
            if (w.equals("*") || w.equals("+") || w.equals("-")) {
                mayNot = false;
                needed = true;
            } else if (w.equals("<") || w.equals("=")) {
                if (compared.get(level)) return fault;
                compared.set(level, true);
                mayNot = false;
                needed = true;
            } else if (w.equals("or") || w.equals("and")) {
                closeAll(open, 'n');
                compared.set(level, false);
                mayNot = true;
                needed = true;
            } else if (w.equals(")")) {
                if (level == 0) return fault;
                closeAll(open, 'n');
                open.setLength(open.length() - 1);
                compared.remove(level);
                closeAll(open, '-');
            } else if (w.equals(";")) {
                return level == 0 ? t + 1 : fault;
            } else {
                return fault;
            }
        }
        return Integer.MAX_VALUE;
    }

    private static void closeAll(StringBuilder open, char what) {
        while (open.length() > 0 && open.charAt(open.length() - 1) == what) open.setLength(open.length() - 1);
    }

    private static boolean isAtom(String w) {
        return Character.isDigit(w.charAt(0)) || List.of("kind", "day", "rank", "same", "hangs", "faith").contains(w);
    }

    int rule(int side, int text) {
        if (!in(side, 0, 2) || !in(text, 0, texts.size() - 1)) return BAD;
        int was = rules[side];
        rules[side] = text;
        return was;
    }

    long says(int side, int act, int part) {
        if (!in(side, 0, 2) || noAct(act) || !in(part, 0, 1)) return NO;
        Text text = texts.get(rules[side]);
        return value(part == 0 ? text.binds : text.saved, side, acts.get(act));
    }

    /** The last place, outside brackets, of one of some words with an operand ahead; -1: none. */
    private static int lastOf(List<Token> e, String words) {
        int depth = 0;
        for (int i = e.size() - 1; i > 0; i--) {
            String w = e.get(i).word;
            if (w.equals(")")) depth++;
            if (w.equals("(")) depth--;
            String ahead = e.get(i - 1).word;
            boolean joins = isAtom(ahead) || ahead.equals(")");
            if (depth == 0 && joins && (" " + words + " ").contains(" " + w + " ")) return i;
        }
        return -1;
    }

    private int value(List<Token> e, int side, Act a) {
        for (String words : new String[] {"or", "and", "not", "< =", "+ -", "*"}) {
            if (words.equals("not")) {
                if (e.get(0).word.equals("not")) return value(e.subList(1, e.size()), side, a) == 0 ? 1 : 0;
                continue;
            }
            int i = lastOf(e, words);
            if (i < 0) continue;
            int l = value(e.subList(0, i), side, a);
            int r = value(e.subList(i + 1, e.size()), side, a);
            switch (e.get(i).word) {
                case "or": return l != 0 || r != 0 ? 1 : 0;
                case "and": return l != 0 && r != 0 ? 1 : 0;
                case "<": return l < r ? 1 : 0;
                case "=": return l == r ? 1 : 0;
                case "+": return l + r;
                case "-": return l - r;
                default: return l * r;
            }
        }
        String w = e.get(0).word;
        if (w.equals("-")) return -value(e.subList(1, e.size()), side, a);
        if (w.equals("(")) return value(e.subList(1, e.size() - 1), side, a);
        return switch (w) {
            case "kind" -> a.kind;
            case "day" -> a.day;
            case "rank" -> rank(a.kind);
            case "same" -> side == 2 || side(persons.get(a.by), a.day) == side ? 1 : 0;
            case "hangs" -> a.hangs.size();
            case "faith" -> a.faith;
            default -> Integer.parseInt(w);
        };
    }

    private int sound(int side) {
        int set = 0;
        for (int a = 0; a < acts.size(); a++) if (says(side, a, 0) != 0) set |= 1 << a;
        return set;
    }

    private boolean supported(int act, int by, int side) {
        if (says(side, act, 1) != 0) return true;
        for (int h : acts.get(act).hangs) if ((by >> h & 1) == 0) return false;
        return true;
    }

    private int supported(int by, int side) {
        int set = 0;
        for (int a = 0; a < acts.size(); a++) if (supported(a, by, side)) set |= 1 << a;
        return set;
    }

    /** All that are in some set of sound ones each of which that set supports. */
    private int good(int side, int sound) {
        int all = 0;
        for (int set = 0; set < 1 << acts.size(); set++) {
            if ((set & ~sound) == 0 && (set & ~all) != 0 && (set & ~supported(set, side)) == 0) all |= set;
        }
        return all;
    }

    /** All that are in every set that has each sound one that it supports. */
    private int firm(int side, int sound) {
        int all = (1 << acts.size()) - 1;
        for (int set = 0; set < 1 << acts.size(); set++) {
            if ((all & ~set) != 0 && (sound & supported(set, side) & ~set) == 0) all &= set;
        }
        return all;
    }

    int acts(int side, int what) {
        if (!in(side, 0, 2) || !in(what, 0, 3)) return BAD;
        int sound = sound(side);
        return switch (what) {
            case 0 -> sound;
            case 1 -> good(side, sound);
            case 2 -> firm(side, sound);
            default -> good(side, sound) & ~firm(side, sound);
        };
    }

    int felled(int side, int act) {
        if (!in(side, 0, 2) || noAct(act)) return BAD;
        int sound = sound(side);
        return good(side, sound) & ~good(side, sound & ~(1 << act));
    }

    int inForce(int side, int day) {
        if (!in(side, 0, 2) || !in(day, 0, 9999)) return BAD;
        int good = good(side, sound(side));
        int set = 0;
        for (int a = 0; a < acts.size(); a++) {
            Act x = acts.get(a);
            boolean is = (good >> a & 1) != 0 && x.day <= day && day - x.day < lasts(x);
            for (int b = 0; b < acts.size(); b++) {
                Act y = acts.get(b);
                boolean rival = x.kind == 1 && y.kind == 1 && x.on / 12 == y.on / 12 && (good >> b & 1) != 0;
                if (rival && y.day <= day && (y.day > x.day || y.day == x.day && b > a)) is = false;
            }
            if (is) set |= 1 << a;
        }
        return set;
    }

    int byRight(int side, int office, int day) {
        if (!in(side, 0, 2) || !in(office, 0, 5) || !in(day, 0, 9999)) return BAD;
        int force = inForce(side, day);
        for (int a = 0; a < acts.size(); a++) {
            Act x = acts.get(a);
            if ((force >> a & 1) != 0 && x.kind == 1 && x.on / 12 == office) return x.on % 12;
        }
        return NONE;
    }

    int quarrels(int day) {
        if (!in(day, 0, 9999)) return BAD;
        int set = 0;
        for (int o = 0; o < 6; o++) if (byRight(0, o, day) != byRight(1, o, day)) set |= 1 << o;
        return set;
    }

    int known(int act, int land) {
        if (noAct(act) || !in(land, 0, 7)) return BAD;
        int far = far(persons.get(acts.get(act).by), land);
        return far == 999 ? NONE : acts.get(act).day + far;
    }

    int crossed(int a, int b) {
        if (noAct(a) || noAct(b) || a == b) return BAD;
        int ab = known(a, persons.get(acts.get(b).by));
        int ba = known(b, persons.get(acts.get(a).by));
        boolean abKnown = ab >= 0 && ab <= acts.get(b).day;
        boolean baKnown = ba >= 0 && ba <= acts.get(a).day;
        return !abKnown && !baKnown ? 1 : 0;
    }

    int pay(int office, int person, int coins, int day) {
        if (!in(office, 0, 5) || noPerson(person) || !in(coins, 1, 9999) || !in(day, 0, 9999)) return BAD;
        if (payments.size() == 30) return FULL;
        payments.add(new Payment(office, person, coins, day));
        return payments.size() - 1;
    }

    long owed(int side, int person) {
        if (!in(side, 0, 2) || !in(person, -1, persons.size() - 1)) return NO;
        long sum = 0;
        for (Payment p : payments) {
            int right = byRight(side, p.office, p.day);
            if (right >= 0 && right != p.person && (person == -1 || person == right)) sum += p.coins;
        }
        return sum;
    }

    int elector(int price, int ours) {
        if (!in(price, 0, 999) || !in(ours, 0, 1)) return BAD;
        if (electors.size() == 10) return FULL;
        electors.add(new Elector(price, ours == 1));
        return electors.size() - 1;
    }

    int clash(int a, int b) {
        if (!in(a, 0, electors.size() - 1) || !in(b, 0, electors.size() - 1) || a == b) return BAD;
        if (clash[a][b]) return 0;
        clash[a][b] = clash[b][a] = true;
        return 1;
    }

    int bought(int what) {
        if (!in(what, 0, 1)) return BAD;
        long best = Long.MAX_VALUE;
        for (int set = 0; set < 1 << electors.size(); set++) {
            int cost = 0;
            int ours = 0;
            boolean may = true;
            for (int e = 0; e < electors.size(); e++) {
                boolean buys = (set >> e & 1) != 0;
                if (buys) cost += electors.get(e).price;
                if (buys || electors.get(e).ours) ours++;
                if (buys && electors.get(e).ours) may = false;
                for (int f = 0; f < e; f++) if (buys && (set >> f & 1) != 0 && clash[e][f]) may = false;
            }
            if (may && 2 * ours > electors.size()) best = Math.min(best, ((long) cost << 20) + (Integer.bitCount(set) << 10) + set);
        }
        if (best == Long.MAX_VALUE) return NONE;
        return (int) (what == 0 ? best & 1023 : best >> 20);
    }

    int seats(int land, int n) {
        if (!in(land, 0, 7) || !in(n, 0, 99)) return BAD;
        int was = seats[land];
        seats[land] = n;
        return was;
    }

    int council(int land, int days, int wanted, int day) {
        if (!in(land, 0, 7) || !in(days, 0, 999) || !in(wanted, 1, 999) || !in(day, 0, 9999)) return BAD;
        long best = Long.MAX_VALUE;
        for (int set = 0; set < 256; set++) {
            int[] come = new int[2];
            boolean may = true;
            for (int l = 0; l < 8; l++) {
                if ((set >> l & 1) == 0) continue;
                if (far(l, land) > days || far(l, land) == 999) may = false;
                come[side(l, day)] += seats[l];
            }
            int all = come[0] + come[1];
            if (!may || all < wanted || come[0] < wanted / 3 || come[1] < wanted / 3) continue;
            best = Math.min(best, ((long) Integer.bitCount(set) << 30) + ((1000 - all) << 10) + set);
        }
        return best == Long.MAX_VALUE ? NONE : (int) (best & 1023);
    }

    int clause(int undoes) {
        if (!in(undoes, 0, 0xFFFFFF)) return BAD;
        if (clauses.size() == 8) return FULL;
        clauses.add(new Clause());
        clauses.get(clauses.size() - 1).undoes = undoes;
        return clauses.size() - 1;
    }

    int worth(int clause, int land, int n) {
        if (!in(clause, 0, clauses.size() - 1) || !in(land, 0, 7) || !in(n, -99, 99)) return -1000;
        int was = clauses.get(clause).worth[land];
        clauses.get(clause).worth[land] = n;
        return was;
    }

    int against(int a, int b) {
        if (!in(a, 0, clauses.size() - 1) || !in(b, 0, clauses.size() - 1) || a == b) return BAD;
        if (against[a][b]) return 0;
        against[a][b] = against[b][a] = true;
        return 1;
    }

    int settling(int n, int what) {
        if (!in(n, 0, 8) || !in(what, 0, 2)) return BAD;
        int good = good(2, sound(2));
        int[] best = null;
        for (int set = 0; set < 1 << clauses.size(); set++) {
            int undone = 0;
            int[] worth = new int[8];
            boolean may = true;
            for (int c = 0; c < clauses.size(); c++) {
                if ((set >> c & 1) == 0) continue;
                undone |= clauses.get(c).undoes;
                for (int l = 0; l < 8; l++) worth[l] += clauses.get(c).worth[l];
                for (int d = 0; d < c; d++) if ((set >> d & 1) != 0 && against[c][d]) may = false;
            }
            int takers = 0;
            for (int l = 0; l < 8; l++) if (worth[l] >= 0) takers |= 1 << l;
            if (!may || Integer.bitCount(takers) < n) continue;
            int[] found = {-Integer.bitCount(set), Integer.bitCount(undone & good), -Integer.bitCount(takers), set, takers};
            if (best == null || Arrays.compare(found, best) < 0) best = found;
        }
        return what == 0 ? best[3] : what == 1 ? best[1] : best[4];
    }

    int bound(int land, int day) {
        if (!in(land, 0, 7) || !in(day, 0, 999)) return BAD;
        int was = bounds[land];
        bounds[land] = day;
        return was;
    }

    int journey(int land, int others, int i) {
        if (!in(land, 0, 7) || !in(others, 0, 255)) return BAD;
        List<Integer> lands = new ArrayList<>();
        for (int l = 0; l < 8; l++) if (l != land && (others >> l & 1) != 0) lands.add(l);
        int[][] far = new int[8][8];
        for (int a = 0; a < 8; a++) for (int b = 0; b < 8; b++) far[a][b] = far(a, b);
        List<int[]> orders = new ArrayList<>();
        allOrders(lands, new ArrayList<>(), orders);
        int[] best = null;
        int most = -1;
        for (int[] order : orders) {
            int won = won(far, land, order);
            if (won > most || won == most && Arrays.compare(order, best) < 0) {
                most = won;
                best = order;
            }
        }
        if (i == -1) return most;
        return in(i, 0, best.length - 1) ? best[i] : NONE;
    }

    private static void allOrders(List<Integer> left, List<Integer> order, List<int[]> into) {
        if (left.isEmpty()) into.add(order.stream().mapToInt(Integer::intValue).toArray());
        for (int i = left.size() - 1; i >= 0; i--) {
            List<Integer> rest = new ArrayList<>(left);
            List<Integer> longer = new ArrayList<>(order);
            longer.add(rest.remove(i));
            allOrders(rest, longer, into);
        }
    }

    private int won(int[][] far, int from, int[] order) {
        int day = 0;
        int won = 0;
        int at = from;
        for (int l : order) {
            if (far[at][l] == 999) return won;
            day += far[at][l];
            if (day <= bounds[l]) won++;
            day += 3;
            at = l;
        }
        return won;
    }

    int count(int what) {
        if (!in(what, 0, 10)) return BAD;
        return new int[] {persons.size(), acts.size(), turns.size(), payments.size(), electors.size(), clauses.size(),
            texts.size(), tape.length(), rules[0], rules[1], rules[2]}[what];
    }

    int sheet(int sheet, int sort, int n) {
        if (!in(sheet, 0, 3) || !in(sort, -1, 2)) return BAD;
        if (sort >= 0 && n > 40) return BAD;
        if (sort >= 0 && n < 0) return -14;
        sheets[sheet] = switch (sort) {
            case 0 -> new byte[n];
            case 1 -> new short[n];
            case 2 -> new int[n];
            default -> null;
        };
        return 1;
    }

    int cell(int sheet, int i, int v) {
        if (!in(sheet, 0, 3)) return BAD;
        try {
            if (sheets[sheet] instanceof byte[] b) b[i] = (byte) v;
            else if (sheets[sheet] instanceof short[] s) s[i] = (short) v;
            else ((int[]) sheets[sheet])[i] = v;
            return 1;
        } catch (NullPointerException e) {
            return -11;
        } catch (ArrayIndexOutOfBoundsException e) {
            return -12;
        }
    }

    @SuppressWarnings("SuspiciousSystemArraycopy")
    int copy(int sheet, int i, int other, int j, int n) {
        if (!in(sheet, 0, 3) || !in(other, 0, 3)) return BAD;
        try {
            System.arraycopy(sheets[sheet], i, sheets[other], j, n);
            return n;
        } catch (NullPointerException e) {
            return -11;
        } catch (ArrayStoreException e) {
            return -13;
        } catch (IndexOutOfBoundsException e) {
            return -12;
        }
    }

    int seatsRow(int sheet, int sort, int from, int n) {
        if (!in(sheet, 0, 3) || !in(sort, 0, 2) || !in(n, 0, 8)) return BAD;
        Object row = sheets[sheet];
        if (row == null) return -11;
        int is = row instanceof byte[] ? 0 : row instanceof short[] ? 1 : 2;
        if (is != sort) return -13;
        int told = 0;
        for (int k = 0; k < n; k++) {
            if ((long) from + k < 0 || (long) from + k >= java.lang.reflect.Array.getLength(row)) return -12;
            int v = java.lang.reflect.Array.getInt(row, from + k) ;
            if (in(v, 0, 99)) {
                seats[k] = v;
                told++;
            }
        }
        return told;
    }

    int taken(int act, int k) {
        if (!in(k, 0, 5)) return BAD;
        if (noAct(act)) return -11;
        int kind = acts.get(act).kind;
        boolean is = k == 0 || k == kind || k == 2 && kind == 4 || k == 3 && kind == 5;
        return is ? rank(kind) : -13;
    }
}
