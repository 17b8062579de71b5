/** Promises 19 to 27: sound, good, firm, felled, in force, by right, known, crossed, owed. */
public final class CourtTest {
    private static final int MIN = Integer.MIN_VALUE, MAX = Integer.MAX_VALUE;

    public static void main(String[] args) {
        chains();
        rings();
        savedOnes();
        felledOnes();
        wrappedOnes();
        lasting();
        namings();
        quarrelling();
        knowing();
        crossing();
        paying();
        owing();
        wrongNumbers();
        Check.end();
    }

    private static TwoHeads withActs(int n) {
        TwoHeads x = new TwoHeads();
        x.person(0);
        x.person(1);
        x.turn(1, 0, 1);
        for (int i = 0; i < n; i++) x.act(0, 0, 0, 10, 0);
        return x;
    }

    private static void acts(TwoHeads x, int side, int sound, int good, int firm) {
        Check.due("sound under " + side, x.acts(side, 0), sound);
        Check.due("good under " + side, x.acts(side, 1), good);
        Check.due("firm under " + side, x.acts(side, 2), firm);
        Check.due("ring under " + side, x.acts(side, 3), good & ~firm);
    }

    private static void chains() {
        TwoHeads x = withActs(24);
        for (int i = 0; i < 23; i++) x.hang(i, i + 1);
        acts(x, 0, 0xFFFFFF, 0xFFFFFF, 0xFFFFFF);
        acts(x, 1, 0, 0, 0);
        acts(x, 2, 0xFFFFFF, 0xFFFFFF, 0xFFFFFF);
        Check.due("all fall with the last", x.felled(0, 23), 0xFFFFFF);
        Check.due("one falls with the first", x.felled(0, 0), 1);
        Check.due("half", x.felled(2, 11), 0xFFF);
        TwoHeads y = new TwoHeads();
        y.person(0);
        y.person(1);
        y.turn(1, 0, 1);
        for (int i = 0; i < 24; i++) y.act(0, i == 23 ? 1 : 0, 0, 10, 0);
        for (int i = 0; i < 23; i++) y.hang(i, i + 1);
        acts(y, 0, 0x7FFFFF, 0, 0);
        acts(y, 1, 0x800000, 0x800000, 0x800000);
        for (int i = 0; i < 24; i++) Check.due("nothing to fall", y.felled(0, i), 0);
    }

    private static void rings() {
        TwoHeads x = withActs(6);
        x.hang(0, 1);
        x.hang(1, 2);
        x.hang(2, 0);
        x.hang(3, 2);
        x.hang(5, 4);
        acts(x, 0, 0x3F, 0x3F, 0x30);
        Check.due("the ring falls with one, and what hangs on it", x.felled(0, 1), 0xF);
        Check.due("the ring stands without it", x.felled(0, 3), 8);
        x.hang(1, 4);
        acts(x, 0, 0x3F, 0x3F, 0x30);
        Check.due("the ring falls with what one hangs on", x.felled(0, 4), 0x3F);
        x.act(0, 1, 0, 10, 0);
        x.hang(2, 6);
        acts(x, 0, 0x3F, 0x30, 0x30);
        acts(x, 2, 0x7F, 0x7F, 0x70);
    }

    private static void savedOnes() {
        TwoHeads x = new TwoHeads();
        x.person(0);
        x.person(1);
        x.turn(1, 0, 1);
        x.act(0, 1, 0, 5, 1);
        x.act(0, 0, 0, 5, 1);
        x.act(0, 0, 0, 5, 0);
        x.hang(1, 0);
        x.hang(2, 1);
        acts(x, 0, 6, 6, 6);
        acts(x, 1, 1, 1, 1);
        Check.due("good faith saves none that isn't sound", x.acts(0, 1) & 1, 0);
        x.act(0, 0, 0, 5, 0);
        x.hang(3, 2);
        x.hang(3, 0);
        acts(x, 0, 14, 6, 6);
        Check.due("felled", x.felled(0, 1), 6);
        Check.due("saved from the fall", x.felled(0, 2), 4);
        Check.due("not sound, fells none", x.felled(0, 0), 0);
        x.hang(1, 2);
        acts(x, 0, 14, 6, 6);
        x.rule(0, Check.text(x, "binds 0 - 1; saved 0;"));
        acts(x, 0, 15, 15, 1);
        x.rule(0, Check.text(x, "binds 1; saved 0 - 1;"));
        acts(x, 0, 15, 15, 15);
        Check.due("saved by what is below 0", x.felled(0, 0), 1);
        x.rule(2, 1);
        acts(x, 2, 15, 15, 1);
        acts(x, 1, 1, 1, 1);
    }

    private static void felledOnes() {
        TwoHeads x = withActs(5);
        x.hang(0, 1);
        x.hang(0, 2);
        x.hang(3, 0);
        Check.due("felled", x.felled(0, 2), 0xD);
        Check.due("nothing is done", x.acts(0, 1), 0x1F);
        Check.due("felled", x.felled(0, 4), 0x10);
        Check.due("felled under a side where none is sound", x.felled(1, 4), 0);
    }

    /** What wraps to 0 is not true, what wraps to below 0 is. */
    private static void wrappedOnes() {
        TwoHeads x = withActs(2);
        x.act(0, 1, 0, 10, 0);
        x.hang(0, 2);
        x.rule(0, Check.text(x, "binds 8192*8192*64;saved 1;"));
        acts(x, 0, 0, 0, 0);
        x.rule(0, Check.text(x, "binds 8192*8192*32;saved 0;"));
        acts(x, 0, 7, 7, 7);
        Check.due("one is felled by what it hangs on", x.felled(0, 2), 5);
        x.rule(0, Check.text(x, "binds same;saved 8192*8192*64;"));
        acts(x, 0, 3, 2, 2);
        x.rule(0, Check.text(x, "binds same;saved 8192*8192*32;"));
        acts(x, 0, 3, 3, 3);
    }

    private static void lasting() {
        TwoHeads x = new TwoHeads();
        x.person(0);
        int[] lasts = {9999, 0, 1000, 300, 1000, 900};
        for (int kind = 0; kind < 6; kind++) x.act(kind, 0, 0, 0, 0);
        for (int kind = 0; kind < 6; kind++) {
            if (kind == 1) continue;
            Check.due("its last day", x.inForce(0, lasts[kind] - 1) >> kind & 1, 1);
            Check.due("run out", x.inForce(0, lasts[kind]) >> kind & 1, 0);
        }
        Check.due("its first day", x.inForce(0, 0), 63);
        Check.due("under the other SIDE", x.inForce(1, 0), 0);
        TwoHeads y = new TwoHeads();
        y.person(0);
        for (int kind = 0; kind < 6; kind++) y.act(kind, 0, 0, 9500, 0);
        Check.due("the day ahead", y.inForce(0, 9499), 0);
        Check.due("the first day", y.inForce(0, 9500), 63);
        Check.due("the last day of all", y.inForce(0, 9999), 55);
    }

    private static void namings() {
        TwoHeads x = new TwoHeads();
        for (int p = 0; p < 4; p++) x.person(p & 1);
        x.turn(1, 0, 1);
        x.act(1, 0, 24, 0, 0);
        Check.due("the last day that it lasts", x.byRight(0, 2, 9998), 0);
        Check.due("run out", x.byRight(0, 2, 9999), -1);
        Check.due("run out", x.inForce(0, 9999), 0);
        x.act(1, 0, 26, 100, 0);
        x.act(1, 0, 25, 50, 0);
        x.act(1, 1, 27, 200, 0);
        Check.due("before all", x.byRight(0, 2, 49), 0);
        Check.due("told last, but for an earlier day", x.byRight(0, 2, 99), 1);
        Check.due("the greater day", x.byRight(0, 2, 100), 2);
        Check.due("not good under it", x.byRight(0, 2, 200), 2);
        Check.due("good under the other", x.byRight(1, 2, 200), 3);
        Check.due("nobody", x.byRight(1, 2, 199), -1);
        Check.due("the council's", x.byRight(2, 2, 200), 3);
        Check.due("in force", x.inForce(2, 200), 8);
        Check.due("in force", x.inForce(2, 100), 2);
        Check.due("in force", x.inForce(0, 75), 4);
        Check.due("another office", x.byRight(2, 1, 200), -1);
        x.act(1, 0, 24, 100, 0);
        Check.due("of like days the one told last", x.byRight(0, 2, 100), 0);
        Check.due("in force", x.inForce(0, 100), 16);
        x.act(1, 0, 0, 100, 0);
        Check.due("two offices", x.inForce(0, 100), 48);
        x.hang(4, 3);
        Check.due("fallen", x.byRight(0, 2, 100), 2);
    }

    private static void quarrelling() {
        TwoHeads x = new TwoHeads();
        x.person(0);
        x.person(1);
        x.turn(1, 0, 1);
        x.act(1, 0, 0, 10, 0);
        x.act(1, 1, 1, 10, 0);
        x.act(1, 0, 12, 10, 0);
        x.act(1, 1, 12, 20, 0);
        x.act(1, 1, 60, 30, 0);
        Check.due("none yet", x.quarrels(9), 0);
        Check.due("two and one with nobody", x.quarrels(10), 3);
        Check.due("the same one", x.quarrels(20), 1);
        Check.due("nobody and one", x.quarrels(30), 33);
        Check.due("bad", x.quarrels(-1), -2);
        Check.due("bad", x.quarrels(10000), -2);
    }

    private static void knowing() {
        TwoHeads x = new TwoHeads();
        x.person(3);
        x.act(0, 0, 0, 9999, 0);
        Check.due("at home", x.known(0, 3), 9999);
        Check.due("never", x.known(0, 4), -1);
        x.road(3, 5, 60);
        x.road(5, 4, 60);
        Check.due("beyond the last day", x.known(0, 4), 10119);
        int[] others = {0, 1, 2, 6, 7};
        for (int i = 0; i < 5; i++) x.road(i == 0 ? 4 : others[i - 1], others[i], 99);
        x.road(3, 5, 99);
        x.road(5, 4, 99);
        Check.due("the latest of all", x.known(0, 7), 9999 + 693);
        x.road(6, 7, 999);
        Check.due("never again", x.known(0, 7), -1);
        Check.due("bad", x.known(0, 8), -2);
        Check.due("bad", x.known(0, -1), -2);
        Check.due("bad", x.known(1, 0), -2);
        Check.due("bad", x.known(-1, 0), -2);
        x.act(0, 0, 0, 0, 0);
        Check.due("the earliest of all", x.known(1, 3), 0);
        Check.due("a way on", x.known(1, 5), 99);
    }

    private static void crossing() {
        TwoHeads x = new TwoHeads();
        x.person(0);
        x.person(1);
        x.act(0, 0, 0, 100, 0);
        x.act(0, 1, 0, 109, 0);
        x.act(0, 1, 0, 110, 0);
        x.act(0, 1, 0, 90, 0);
        x.act(0, 1, 0, 91, 0);
        x.act(0, 0, 0, 100, 0);
        Check.due("no way", x.crossed(0, 2), 1);
        x.road(0, 1, 10);
        Check.due("known a day too late", x.crossed(0, 1), 1);
        Check.due("known a day too late", x.crossed(1, 0), 1);
        Check.due("known on the day", x.crossed(0, 2), 0);
        Check.due("known on the day", x.crossed(2, 0), 0);
        Check.due("the other one known", x.crossed(0, 3), 0);
        Check.due("the other one known too late", x.crossed(0, 4), 1);
        Check.due("in one land on one day", x.crossed(0, 5), 0);
        Check.due("in one land", x.crossed(1, 2), 0);
        Check.due("itself", x.crossed(1, 1), -2);
        Check.due("bad", x.crossed(0, 6), -2);
        Check.due("bad", x.crossed(-1, 0), -2);
        Check.due("bad", x.crossed(MIN, MAX), -2);
    }

    private static void paying() {
        TwoHeads x = new TwoHeads();
        Check.due("no such person", x.pay(0, 0, 1, 0), -2);
        x.person(0);
        int[][] bad = {{-1, 0, 1, 0}, {6, 0, 1, 0}, {0, -1, 1, 0}, {0, 1, 1, 0}, {0, 0, 0, 0}, {0, 0, 10000, 0},
            {0, 0, -1, 0}, {0, 0, 1, -1}, {0, 0, 1, 10000}, {MAX, 0, 1, 0}, {0, 0, MIN, 0}};
        for (int[] b : bad) Check.due("bad pay", x.pay(b[0], b[1], b[2], b[3]), -2);
        for (int i = 0; i < 30; i++) Check.due("pay", x.pay(i % 6, 0, 9999, 9999), i);
        Check.due("full", x.pay(0, 0, 1, 0), -4);
        Check.due("bad ahead of full", x.pay(0, 0, 0, 0), -2);
        Check.due("nobody by right", x.owed(0, -1), 0);
        x.person(0);
        for (int office = 0; office < 6; office++) x.act(1, 0, office * 12 + 1, 5000, 0);
        Check.due("all wrong", x.owed(0, -1), 299970);
        Check.due("to that one", x.owed(0, 1), 299970);
        Check.due("not to this one", x.owed(0, 0), 0);
    }

    private static void owing() {
        TwoHeads x = new TwoHeads();
        x.person(0);
        x.person(1);
        x.person(2);
        x.turn(1, 0, 1);
        x.act(1, 0, 2, 100, 0);
        x.act(1, 1, 1, 200, 0);
        x.pay(0, 0, 1, 99);
        x.pay(0, 0, 10, 100);
        x.pay(0, 2, 100, 150);
        x.pay(0, 1, 1000, 250);
        x.pay(0, 0, 2000, 250);
        x.pay(1, 0, 5000, 250);
        Check.due("owed to 2 under 0", x.owed(0, 2), 3010);
        Check.due("all under 0", x.owed(0, -1), 3010);
        Check.due("owed to 1 under 1", x.owed(1, 1), 2000);
        Check.due("owed to 2 under 1", x.owed(1, 2), 0);
        Check.due("owed to 1 under 2", x.owed(2, 1), 2000);
        Check.due("owed to 2 under 2", x.owed(2, 2), 10);
        Check.due("all under 2", x.owed(2, -1), 2010);
        endsOfANaming();
        for (int bad : new int[] {-1, 3, MIN, MAX}) Check.due("no such side", x.owed(bad, 0), TwoHeads.NO);
        for (int bad : new int[] {-2, 3, 12, MIN, MAX}) Check.due("no such person", x.owed(0, bad), TwoHeads.NO);
    }

    /** A rent is WRONG from the first DAY of a NAMING to the last that it LASTS. */
    private static void endsOfANaming() {
        TwoHeads x = new TwoHeads();
        x.person(0);
        x.person(0);
        x.act(1, 0, 13, 1, 0);
        x.act(1, 0, 1, 0, 0);
        x.pay(1, 0, 1, 0);
        Check.due("a day ahead of it", x.owed(0, -1), 0);
        x.pay(1, 0, 10, 1);
        Check.due("the first day", x.owed(0, -1), 10);
        x.pay(0, 0, 100, 9998);
        Check.due("the last day", x.owed(0, -1), 110);
        x.pay(0, 0, 1000, 9999);
        Check.due("a day behind it nobody is by right", x.owed(0, -1), 110);
        x.pay(1, 0, 2000, 9999);
        Check.due("a day later told, a day longer", x.owed(0, 1), 2110);
    }

    private static void wrongNumbers() {
        TwoHeads x = withActs(2);
        for (int bad : new int[] {-1, 3, MIN, MAX}) {
            Check.due("acts", x.acts(bad, 0), -2);
            Check.due("felled", x.felled(bad, 0), -2);
            Check.due("inForce", x.inForce(bad, 0), -2);
            Check.due("byRight", x.byRight(bad, 0, 0), -2);
        }
        for (int bad : new int[] {-1, 10000, MIN, MAX}) {
            Check.due("acts", x.acts(0, bad), -2);
            Check.due("felled", x.felled(0, bad), -2);
            Check.due("inForce", x.inForce(0, bad), -2);
            Check.due("byRight", x.byRight(0, 0, bad), -2);
            Check.due("byRight", x.byRight(0, bad, 0), -2);
        }
        Check.due("acts", x.acts(0, 4), -2);
        Check.due("felled", x.felled(0, 2), -2);
        Check.due("byRight", x.byRight(0, 6, 0), -2);
    }
}
