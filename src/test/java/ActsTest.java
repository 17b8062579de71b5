/** Promises 11 to 14 and 44: acts, hanging, lifting, telling, kinds. */
public final class ActsTest {
    private static final int MIN = Integer.MIN_VALUE, MAX = Integer.MAX_VALUE;

    public static void main(String[] args) {
        telling();
        wrongActs();
        namings();
        fullActs();
        hanging();
        lifting();
        kinds();
        Check.end();
    }

    private static TwoHeads withOneOfEachKind() {
        TwoHeads x = new TwoHeads();
        for (int p = 0; p < 12; p++) x.person(p % 8);
        int[] on = {99, 71, 50, 0, 99, 7};
        for (int kind = 0; kind < 6; kind++) Check.due("act", x.act(kind, kind + 1, on[kind], kind * 1000, kind & 1), kind);
        return x;
    }

    private static void telling() {
        TwoHeads x = withOneOfEachKind();
        int[] on = {99, 71, 50, 0, 99, 7};
        int[] rank = {1, 3, 2, 1, 4, 5};
        int[] lasts = {9999, 9999, 1000, 300, 1000, 900};
        for (int a = 0; a < 6; a++) {
            Check.due("kind", x.actTold(a, 0), a);
            Check.due("by", x.actTold(a, 1), a + 1);
            Check.due("on", x.actTold(a, 2), on[a]);
            Check.due("day", x.actTold(a, 3), a * 1000);
            Check.due("faith", x.actTold(a, 4), a & 1);
            Check.due("rank", x.actTold(a, 5), rank[a]);
            Check.due("lasts", x.actTold(a, 6), lasts[a]);
            Check.due("hangs", x.actTold(a, 7), 0);
        }
        for (int bad : new int[] {-1, 6, MIN, MAX}) Check.due("no such act", x.actTold(bad, 0), -2);
        for (int bad : new int[] {-1, 8, MIN, MAX}) Check.due("no such what", x.actTold(0, bad), -2);
        Check.due("count", x.count(1), 6);
    }

    private static void wrongActs() {
        TwoHeads x = new TwoHeads();
        Check.due("no PERSON yet", x.act(0, 0, 0, 0, 0), -2);
        x.person(0);
        int[][] bad = {{-1, 0, 0, 0, 0}, {6, 0, 0, 0, 0}, {0, -1, 0, 0, 0}, {0, 1, 0, 0, 0}, {0, 0, -1, 0, 0},
            {0, 0, 100, 0, 0}, {0, 0, 0, -1, 0}, {0, 0, 0, 10000, 0}, {0, 0, 0, 0, -1}, {0, 0, 0, 0, 2},
            {MIN, 0, 0, 0, 0}, {0, MAX, 0, 0, 0}, {0, 0, MIN, 0, 0}, {0, 0, 0, MAX, 0}, {0, 0, 0, 0, MIN}};
        for (int[] b : bad) Check.due("bad act", x.act(b[0], b[1], b[2], b[3], b[4]), -2);
        Check.due("nothing changed", x.count(1), 0);
        Check.due("edges", x.act(5, 0, 99, 9999, 1), 0);
    }

    private static void namings() {
        TwoHeads x = new TwoHeads();
        x.person(0);
        x.person(0);
        Check.due("PERSON 1 of OFFICE 5", x.act(1, 0, 61, 0, 0), 0);
        Check.due("no PERSON 2", x.act(1, 0, 62, 0, 0), -2);
        Check.due("no OFFICE 6", x.act(1, 0, 72, 0, 0), -2);
        Check.due("no OFFICE -1", x.act(1, 0, -12, 0, 0), -2);
        Check.due("no OFFICE below 0", x.act(1, 0, -1, 0, 0), -2);
        Check.due("far outside", x.act(1, 0, MAX, 0, 0), -2);
        Check.due("of others no PERSON is asked for", x.act(2, 0, 62, 0, 0), 1);
        Check.due("of others up to 99", x.act(2, 0, 72, 0, 0), 2);
        Check.due("by right", x.byRight(0, 5, 0), 1);
    }

    private static void fullActs() {
        TwoHeads x = new TwoHeads();
        x.person(0);
        for (int a = 0; a < 24; a++) Check.due("act", x.act(0, 0, a, a, 0), a);
        Check.due("full", x.act(0, 0, 0, 0, 0), -4);
        Check.due("bad ahead of full", x.act(0, 0, 100, 0, 0), -2);
        Check.due("bad naming ahead of full", x.act(1, 0, 1, 0, 0), -2);
        for (int a = 0; a < 23; a++) Check.due("hang", x.hang(23, a), a + 1);
        Check.due("all others", x.actTold(23, 7), (1 << 23) - 1);
        Check.due("all good", x.acts(0, 1), (1 << 24) - 1);
    }

    private static void hanging() {
        TwoHeads x = withOneOfEachKind();
        Check.due("hang", x.hang(0, 5), 1);
        Check.due("hang", x.hang(0, 3), 2);
        Check.due("it does", x.hang(0, 5), -3);
        Check.due("back", x.hang(5, 0), 1);
        Check.due("told", x.actTold(0, 7), 0x28);
        Check.due("itself", x.hang(2, 2), -2);
        for (int bad : new int[] {-1, 6, 24, MIN, MAX}) {
            Check.due("bad", x.hang(bad, 0), -2);
            Check.due("bad", x.hang(0, bad), -2);
        }
    }

    private static void lifting() {
        TwoHeads x = withOneOfEachKind();
        Check.due("ahead of its day", x.lift(4, 3999), -2);
        Check.due("no such day", x.lift(4, 10000), -2);
        Check.due("no such day", x.lift(4, -1), -2);
        Check.due("no such act", x.lift(6, 5000), -2);
        Check.due("no such act", x.lift(-1, 5000), -2);
        Check.due("no ban, and no such day", x.lift(0, 10000), -2);
        Check.due("no ban, and ahead of its day", x.lift(2, 1999), -2);
        Check.due("no ban", x.lift(2, 2000), -13);
        Check.due("no ban", x.lift(5, 9999), -13);
        Check.due("lasts as it did", x.actTold(4, 6), 1000);
        Check.due("longer than it would", x.lift(4, 9999), 5999);
        Check.due("told", x.actTold(4, 6), 5999);
        Check.due("it was", x.lift(4, 9999), -3);
        Check.due("it was, but bad goes ahead", x.lift(4, 3000), -2);
        Check.due("in force", x.inForce(2, 9998) & 16, 16);
        Check.due("not in force", x.inForce(2, 9999) & 16, 0);
        TwoHeads y = new TwoHeads();
        y.person(0);
        y.act(4, 0, 0, 70, 0);
        Check.due("on its own day", y.lift(0, 70), 0);
        Check.due("never in force", y.inForce(0, 70), 0);
        Check.due("it was", y.lift(0, 71), -3);
    }

    private static void kinds() {
        TwoHeads x = withOneOfEachKind();
        int[] rank = {1, 3, 2, 1, 4, 5};
        int[] above = {0x01, 0x03, 0x05, 0x09, 0x15, 0x29};
        for (int a = 0; a < 6; a++) {
            for (int k = 0; k < 6; k++) {
                Check.due("act " + a + " as " + k, x.taken(a, k), (above[a] >> k & 1) != 0 ? rank[a] : -13);
            }
        }
        for (int bad : new int[] {-1, 6, MIN, MAX}) {
            Check.due("no such kind", x.taken(0, bad), -2);
            Check.due("no such kind, no such act", x.taken(bad, bad), -2);
            Check.due("no such act", x.taken(bad, 0), -11);
        }
        Check.due("no such act", x.taken(24, 5), -11);
    }
}
