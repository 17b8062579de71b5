/** Promises 28 to 39: electors, the council, the settling, envoys, counts. */
public final class ChoicesTest {
    private static final int MIN = Integer.MIN_VALUE, MAX = Integer.MAX_VALUE;

    public static void main(String[] args) {
        electors();
        buying();
        moreThanHalf();
        seats();
        councils();
        thirds();
        noWayToTheCouncil();
        clauses();
        settling();
        settlingOrder();
        bounds();
        journeys();
        farJourneys();
        counts();
        Check.end();
    }

    private static void electors() {
        TwoHeads x = new TwoHeads();
        int[][] bad = {{-1, 0}, {1000, 0}, {0, -1}, {0, 2}, {MIN, 0}, {MAX, 1}};
        for (int[] b : bad) Check.due("bad elector", x.elector(b[0], b[1]), -2);
        Check.due("bad clash", x.clash(0, 1), -2);
        for (int e = 0; e < 10; e++) Check.due("elector", x.elector(e == 0 ? 0 : 999, 0), e);
        Check.due("full", x.elector(0, 0), -4);
        Check.due("bad ahead of full", x.elector(1000, 0), -2);
        Check.due("clash", x.clash(0, 9), 1);
        Check.due("they did", x.clash(9, 0), 0);
        Check.due("they did", x.clash(0, 9), 0);
        Check.due("with another one, too", x.clash(5, 9), 1);
        Check.due("they still did", x.clash(9, 0), 0);
        Check.due("itself", x.clash(3, 3), -2);
        for (int b : new int[] {-1, 10, MIN, MAX}) {
            Check.due("bad clash", x.clash(b, 0), -2);
            Check.due("bad clash", x.clash(0, b), -2);
        }
        Check.due("six of ten", x.bought(0), 0x3F);
        Check.due("six of ten", x.bought(1), 999 * 5);
    }

    private static void buying() {
        TwoHeads x = new TwoHeads();
        Check.due("of none there is no more than half", x.bought(0), -1);
        Check.due("of none there is no more than half", x.bought(1), -1);
        Check.due("bad", x.bought(-1), -2);
        Check.due("bad", x.bought(2), -2);
        x.elector(5, 1);
        Check.due("ours already", x.bought(0), 0);
        Check.due("costs nothing", x.bought(1), 0);
        x.elector(0, 0);
        Check.due("half is not more than half", x.bought(0), 2);
        Check.due("it costs nothing", x.bought(1), 0);
        x.elector(7, 1);
        Check.due("fewest of like cost", x.bought(0), 0);
        x.elector(3, 0);
        x.elector(3, 0);
        x.clash(1, 3);
        Check.due("one more is enough", x.bought(0), 2);
        x.clash(0, 1);
        Check.due("a clash with ours does not matter", x.bought(0), 2);
        TwoHeads y = new TwoHeads();
        for (int e = 0; e < 4; e++) y.elector(1, 0);
        Check.due("the least set", y.bought(0), 7);
        y.clash(0, 1);
        Check.due("none that clash", y.bought(0), 13);
        y.clash(2, 3);
        Check.due("there is none", y.bought(0), -1);
        Check.due("there is none", y.bought(1), -1);
        TwoHeads z = new TwoHeads();
        z.elector(2, 0);
        z.elector(1, 0);
        z.elector(1, 0);
        z.elector(0, 1);
        z.elector(0, 1);
        z.elector(9, 0);
        z.elector(0, 0);
        Check.due("cost before number", z.bought(0), 0x42);
        Check.due("cost before number", z.bought(1), 1);
    }

    /** Of n ELECTORS it takes n / 2 (cut) and one more, those that are for us already with them. */
    private static void moreThanHalf() {
        for (int n = 1; n <= 10; n++) {
            int needed = n / 2 + 1;
            for (int ours = 0; ours <= n; ours++) {
                TwoHeads x = new TwoHeads();
                for (int e = 0; e < n; e++) x.elector(10, e < ours ? 1 : 0);
                int bought = Math.max(0, needed - ours);
                Check.due(needed + " of " + n + ", " + ours + " ours", x.bought(1), 10 * bought);
                Check.due("the least set", x.bought(0), ((1 << bought) - 1) << ours);
            }
            TwoHeads x = new TwoHeads();
            for (int e = 0; e < n; e++) x.elector(0, 0);
            Check.due("that costs nothing", x.bought(1), 0);
            Check.due("no more than needed", x.bought(0), (1 << needed) - 1);
            for (int a = 0; a < n; a++) for (int b = 0; b < a; b++) x.clash(a, b);
            Check.due("all clash: one alone can be bought", x.bought(0), n == 1 ? 1 : -1);
        }
    }

    private static void seats() {
        TwoHeads x = new TwoHeads();
        Check.due("seats", x.seats(7, 99), 0);
        Check.due("seats", x.seats(7, 0), 99);
        for (int bad : new int[] {-1, 8, MIN, MAX}) Check.due("bad land", x.seats(bad, 0), -2);
        for (int bad : new int[] {-1, 100, MIN, MAX}) Check.due("bad seats", x.seats(0, bad), -2);
        Check.due("nothing changed", x.seats(0, 5), 0);
    }

    private static void councils() {
        TwoHeads x = new TwoHeads();
        int[][] bad = {{-1, 0, 1, 0}, {8, 0, 1, 0}, {0, -1, 1, 0}, {0, 1000, 1, 0}, {0, 0, 0, 0}, {0, 0, 1000, 0},
            {0, 0, 1, -1}, {0, 0, 1, 10000}, {MIN, 0, 1, 0}, {0, MAX, 1, 0}, {0, 0, MIN, 0}, {0, 0, 1, MAX}};
        for (int[] b : bad) Check.due("bad council", x.council(b[0], b[1], b[2], b[3]), -2);
        Check.due("no seats", x.council(0, 0, 1, 0), -1);
        x.seats(0, 2);
        Check.due("a third of 2 is 0", x.council(0, 0, 2, 0), 1);
        x.seats(0, 50);
        Check.due("a third of 3 is 1", x.council(0, 0, 3, 0), -1);
        for (int land = 1; land < 8; land++) x.road(0, land, land * 10);
        x.seats(1, 10);
        x.seats(2, 10);
        x.seats(3, 20);
        x.seats(4, 20);
        x.turn(2, 100, 1);
        x.turn(3, 100, 1);
        x.turn(4, 100, 1);
        Check.due("none holds to SIDE 1 yet", x.council(0, 99, 30, 99), -1);
        Check.due("most seats, then the least set", x.council(0, 99, 30, 100), 0x9);
        Check.due("not come by then", x.council(0, 29, 30, 100), 0x5);
        Check.due("come on the day", x.council(0, 20, 30, 100), 0x5);
        Check.due("not come by then", x.council(0, 19, 30, 100), -1);
        Check.due("a third is cut", x.council(0, 29, 32, 100), 0x5);
        Check.due("a third", x.council(0, 29, 33, 100), -1);
        Check.due("two for a third", x.council(0, 99, 66, 100), 0x19);
        Check.due("one more for the sum", x.council(0, 99, 100, 100), 0x1B);
        Check.due("all of both", x.council(0, 99, 110, 100), 0x1F);
        Check.due("too many", x.council(0, 99, 111, 100), -1);
        Check.due("elsewhere", x.council(4, 40, 60, 100), 0x11);
        Check.due("the fewest before the most seats", x.council(0, 99, 2, 100), 0x1);
        Check.due("SIDE 0 needs its third too", x.council(3, 0, 3, 100), -1);
        Check.due("999 is no wrong number", x.council(0, 999, 999, 9999), -1);
        TwoHeads y = new TwoHeads();
        for (int land = 0; land < 8; land++) {
            y.seats(land, 99);
            if (land > 0) y.road(0, land, 1);
        }
        y.turn(0, 0, 1);
        y.turn(7, 0, 1);
        Check.due("SIDE 1 falls short of a third", y.council(0, 1, 792, 0), -1);
        y.turn(1, 0, 1);
        Check.due("all eight", y.council(0, 1, 792, 0), 255);
        Check.due("one more than all", y.council(0, 1, 793, 0), -1);
        Check.due("LAND 0 may be of SIDE 1", y.council(0, 1, 100, 0), 5);
    }

    /** A third (cut) of both SIDES and the whole of all SEATS: each number just reached, and missed by one. */
    private static void thirds() {
        for (int wanted = 1; wanted <= 297; wanted++) {
            TwoHeads x = new TwoHeads();
            x.turn(7, 0, 1);
            x.road(6, 7, 1);
            x.road(5, 6, 1);
            int third = wanted / 3;
            int left = wanted - third;
            x.seats(7, third);
            x.seats(6, left / 2);
            x.seats(5, left - left / 2);
            Check.holds(wanted + " just reached", x.council(7, 2, wanted, 0) > 0);
            x.seats(7, Math.max(0, third - 1));
            x.seats(4, 99);
            x.road(4, 7, 1);
            if (third > 0) Check.due("a third of " + wanted + ", missed", x.council(7, 2, wanted, 0), -1);
            x.seats(7, third);
            x.seats(4, 0);
            x.seats(5, left - left / 2 - 1);
            Check.due(wanted + " of all, missed by one", x.council(7, 2, wanted, 0), -1);
        }
    }

    // FAR is 999 where there is no way: that is no number of DAYS, so 999 DAYS are not enough either.
    private static void noWayToTheCouncil() {
        TwoHeads x = new TwoHeads();
        x.seats(3, 9);
        Check.due("no way, not by 998", x.council(0, 998, 1, 0), -1);
        Check.due("no way, not by 999", x.council(0, 999, 1, 0), -1);
        Check.due("its own SEATS need no way", x.council(3, 999, 1, 0), 8);
        x.seats(0, 1);
        Check.due("one without a way is not in the set", x.council(0, 999, 1, 0), 1);
        Check.due("nor for the sum", x.council(0, 999, 2, 0), -1);
        for (int land = 0; land < 7; land++) x.road(land, land + 1, 99);
        x.seats(7, 50);
        Check.due("the longest way there is", x.council(0, 693, 50, 0), -1);
        x.turn(7, 0, 1);
        x.seats(0, 16);
        Check.due("the longest way there is", x.council(0, 693, 50, 0), 0x81);
        Check.due("a day too few", x.council(0, 692, 50, 0), -1);
        Check.due("by 999", x.council(0, 999, 50, 0), 0x81);
        x.road(6, 7, 999);
        Check.due("the way is gone", x.council(0, 999, 50, 0), -1);
    }

    private static void clauses() {
        TwoHeads x = new TwoHeads();
        Check.due("bad clause", x.clause(-1), -2);
        Check.due("bad clause", x.clause(1 << 24), -2);
        Check.due("bad clause", x.clause(MIN), -2);
        Check.due("no clause yet", x.worth(0, 0, 0), -1000);
        Check.due("no clause yet", x.against(0, 1), -2);
        for (int c = 0; c < 8; c++) Check.due("clause", x.clause(c == 0 ? 0 : (1 << 24) - 1), c);
        Check.due("full", x.clause(0), -4);
        Check.due("bad ahead of full", x.clause(-1), -2);
        Check.due("worth", x.worth(7, 7, -99), 0);
        Check.due("worth", x.worth(7, 7, 99), -99);
        Check.due("worth", x.worth(7, 7, 1), 99);
        int[][] bad = {{-1, 0, 0}, {8, 0, 0}, {0, -1, 0}, {0, 8, 0}, {0, 0, -100}, {0, 0, 100}, {MIN, 0, 0}, {0, MAX, 0}, {0, 0, MIN}};
        for (int[] b : bad) Check.due("bad worth", x.worth(b[0], b[1], b[2]), -1000);
        Check.due("against", x.against(2, 6), 1);
        Check.due("they didn't", x.against(6, 2), 0);
        Check.due("they didn't", x.against(2, 6), 0);
        Check.due("with another one, too", x.against(4, 6), 1);
        Check.due("they still didn't", x.against(6, 2), 0);
        Check.due("itself", x.against(2, 2), -2);
        for (int b : new int[] {-1, 8, MIN, MAX}) {
            Check.due("bad against", x.against(b, 0), -2);
            Check.due("bad against", x.against(0, b), -2);
            if (b != 8) Check.due("bad n", x.settling(b, 0), -2);
            Check.due("bad what", x.settling(0, b), -2);
        }
        Check.due("bad n", x.settling(9, 0), -2);
        Check.due("bad what", x.settling(0, 3), -2);
        Check.due("without 6", x.settling(8, 0), 0xBF);
    }

    private static void settling() {
        TwoHeads x = new TwoHeads();
        Check.due("the empty set", x.settling(8, 0), 0);
        Check.due("undoes none", x.settling(8, 1), 0);
        Check.due("all take it", x.settling(8, 2), 255);
        x.clause(0xFFFFFF);
        for (int land = 0; land < 8; land++) x.worth(0, land, -1);
        Check.due("nobody takes it", x.settling(1, 0), 0);
        Check.due("n 0: nobody need take it", x.settling(0, 0), 1);
        Check.due("n 0: nobody takes it", x.settling(0, 2), 0);
        x.person(0);
        x.act(0, 0, 0, 0, 0);
        x.act(0, 0, 0, 0, 0);
        Check.due("acts told later", x.settling(0, 1), 2);
        x.rule(2, Check.text(x, "binds 0; saved 1;"));
        Check.due("good under SIDE 2 alone", x.settling(0, 1), 0);
        x.clause(0);
        for (int land = 0; land < 5; land++) x.worth(1, land, 1);
        Check.due("a sum of 0 is taken", x.settling(5, 0), 3);
        Check.due("a sum of 0 is taken", x.settling(5, 2), 31);
        Check.due("fewer must do", x.settling(6, 0), 2);
        Check.due("all take it", x.settling(8, 2), 255);
        x.against(0, 1);
        Check.due("not together", x.settling(5, 0), 2);
        Check.due("fewest undone, then most LANDS", x.settling(0, 0), 2);
    }

    private static void settlingOrder() {
        TwoHeads x = new TwoHeads();
        x.person(0);
        for (int i = 0; i < 4; i++) x.act(0, 0, 0, 0, 0);
        x.clause(7);
        x.clause(14);
        x.clause(3);
        x.clause(6);
        for (int a = 0; a < 4; a++) for (int b = a + 1; b < 4; b++) x.against(a, b);
        Check.due("the fewest undone, the least set", x.settling(0, 0), 4);
        x.worth(2, 5, -1);
        Check.due("taken by the most", x.settling(7, 0), 8);
        Check.due("undone", x.settling(7, 1), 2);
        x.worth(3, 5, -1);
        Check.due("the fewest undone before the most takers", x.settling(7, 0), 4);
        Check.due("but as many as told must take it", x.settling(8, 0), 1);
        Check.due("undone", x.settling(8, 1), 3);
        TwoHeads y = new TwoHeads();
        y.person(0);
        for (int i = 0; i < 4; i++) y.act(0, 0, 0, 0, 0);
        y.clause(3);
        y.clause(6);
        y.clause(8);
        y.against(1, 2);
        Check.due("what both undo counts once", y.settling(8, 0), 3);
        Check.due("what both undo counts once", y.settling(8, 1), 3);
        Check.due("like: the least set", y.settling(0, 0), 3);
    }

    private static void bounds() {
        TwoHeads x = new TwoHeads();
        Check.due("bound", x.bound(7, 999), 0);
        Check.due("bound", x.bound(7, 0), 999);
        for (int bad : new int[] {-1, 8, MIN, MAX}) Check.due("bad land", x.bound(bad, 0), -2);
        for (int bad : new int[] {-1, 1000, MIN, MAX}) Check.due("bad day", x.bound(0, bad), -2);
    }

    private static void goes(TwoHeads x, int from, int others, int won, int... order) {
        String what = "journey(" + from + ", " + others + ")";
        Check.due(what + " won", x.journey(from, others, -1), won);
        for (int i = 0; i < order.length; i++) Check.due(what + " " + i, x.journey(from, others, i), order[i]);
        Check.due(what + " behind", x.journey(from, others, order.length), -1);
        Check.due(what + " ahead", x.journey(from, others, -2), -1);
        Check.due(what + " far off", x.journey(from, others, MAX), -1);
        Check.due(what + " far off", x.journey(from, others, MIN), -1);
    }

    private static void journeys() {
        TwoHeads x = new TwoHeads();
        goes(x, 0, 0, 0);
        goes(x, 3, 8, 0);
        for (int land = 1; land < 8; land++) x.road(0, land, 1);
        goes(x, 0, 255, 0, 1, 2, 3, 4, 5, 6, 7);
        // From 0: the first one is come to on day 1, each next one 3 + 2 days on.
        for (int land = 1; land < 8; land++) x.bound(land, 1 + 5 * (7 - land));
        goes(x, 0, 254, 7, 7, 6, 5, 4, 3, 2, 1);
        goes(x, 0, 255, 7, 7, 6, 5, 4, 3, 2, 1);
        x.bound(4, 15);
        goes(x, 0, 254, 6, 4, 6, 5, 1, 3, 2, 7);
    }

    private static void farJourneys() {
        TwoHeads x = new TwoHeads();
        x.road(0, 1, 5);
        x.road(3, 4, 1);
        for (int land = 0; land < 8; land++) x.bound(land, 999);
        goes(x, 0, 2, 1, 1);
        goes(x, 0, 0x1E, 1, 1, 2, 3, 4);
        goes(x, 1, 0x1D, 1, 0, 2, 3, 4);
        goes(x, 4, 0x0F, 1, 3, 0, 1, 2);
        goes(x, 2, 0xFF, 0, 0, 1, 3, 4, 5, 6, 7);
        x.bound(1, 4);
        goes(x, 0, 0x06, 0, 1, 2);
        Check.due("bad land", x.journey(-1, 0, -1), -2);
        Check.due("bad land", x.journey(8, 0, -1), -2);
        Check.due("bad bits", x.journey(0, -1, -1), -2);
        Check.due("bad bits", x.journey(0, 256, -1), -2);
        Check.due("bad ahead of none such", x.journey(0, 256, 99), -2);
        Check.due("bad ahead of none such", x.journey(MAX, MIN, -9), -2);
    }

    private static void counts() {
        TwoHeads x = new TwoHeads();
        x.person(0);
        x.person(0);
        x.act(0, 0, 0, 0, 0);
        x.turn(0, 0, 0);
        x.turn(0, 0, 0);
        x.turn(0, 0, 0);
        for (int i = 0; i < 4; i++) x.pay(0, 0, 1, 0);
        for (int i = 0; i < 5; i++) x.elector(0, 0);
        for (int i = 0; i < 6; i++) x.clause(0);
        x.rule(1, Check.text(x, "binds 0;saved 0;"));
        x.rule(2, Check.text(x, "binds 0;saved 0;"));
        x.feed(7, 0);
        int[] due = {2, 1, 3, 4, 5, 6, 3, 7, 0, 1, 2};
        for (int what = 0; what < due.length; what++) Check.due("count " + what, x.count(what), due[what]);
        for (int bad : new int[] {-1, 11, MIN, MAX}) Check.due("bad count", x.count(bad), -2);
    }
}
