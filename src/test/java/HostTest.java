/** Promises 40 to 43: sheets, cells, copies, rows of seats. */
public final class HostTest {
    private static final int MIN = Integer.MIN_VALUE, MAX = Integer.MAX_VALUE;

    public static void main(String[] args) {
        sheets();
        cells();
        copies();
        copiesOntoItself();
        rows();
        rowsCutOff();
        Check.end();
    }

    /** What stands in a cell, read through the SEATS of LAND 0: only 0 .. 99 can be told. */
    private static int read(TwoHeads x, int sheet, int sort, int i) {
        x.seats(0, 77);
        int told = x.seatsRow(sheet, sort, i, 1);
        return told == 1 ? x.seats(0, 0) : told == 0 ? -1 : told;
    }

    private static void sheets() {
        TwoHeads x = new TwoHeads();
        for (int bad : new int[] {-1, 4, MIN, MAX}) {
            Check.due("no such sheet", x.sheet(bad, 0, 1), -2);
            Check.due("no such sheet", x.sheet(bad, -1, 1), -2);
        }
        for (int bad : new int[] {-2, 3, MIN, MAX}) Check.due("no such sort", x.sheet(0, bad, 1), -2);
        Check.due("too long", x.sheet(0, 0, 41), -2);
        Check.due("too long", x.sheet(0, 2, MAX), -2);
        Check.due("below 0", x.sheet(0, 0, -1), -14);
        Check.due("below 0", x.sheet(0, 1, MIN), -14);
        Check.due("no such sort ahead of below 0", x.sheet(0, 3, -1), -2);
        Check.due("still missing", x.cell(0, 0, 0), -11);
        Check.due("made", x.sheet(3, 1, 40), 1);
        Check.due("its last", x.cell(3, 39, 5), 1);
        Check.due("refusals change nothing", x.sheet(3, 1, 41), -2);
        Check.due("refusals change nothing", read(x, 3, 1, 39), 5);
        Check.due("made again", x.sheet(3, 1, 40), 1);
        Check.due("all 0", read(x, 3, 1, 39), 0);
        Check.due("missing, n does not matter", x.sheet(3, -1, MAX), 1);
        Check.due("missing", x.cell(3, 0, 0), -11);
        Check.due("missing again", x.sheet(3, -1, MIN), 1);
        Check.due("of none", x.sheet(3, 2, 0), 1);
        Check.due("of none", x.cell(3, 0, 0), -12);
    }

    private static void cells() {
        TwoHeads x = new TwoHeads();
        for (int bad : new int[] {-1, 4, MIN, MAX}) Check.due("no such sheet", x.cell(bad, 0, 0), -2);
        for (int sort = 0; sort < 3; sort++) x.sheet(sort, sort, 3);
        for (int bad : new int[] {-1, 3, MIN, MAX}) Check.due("outside", x.cell(0, bad, 0), -12);
        Check.due("missing ahead of outside", x.cell(3, 99, 0), -11);
        int[][] put = {{256 + 7, 7, -1, -1}, {255, -1, -1, -1}, {65536 + 9, 9, 9, -1}, {-249, 7, -1, -1},
            {98, 98, 98, 98}, {-1, -1, -1, -1}, {MIN, 0, 0, -1}, {128, -1, -1, -1}, {32768 + 3, 3, -1, -1}};
        for (int[] p : put) {
            for (int sort = 0; sort < 3; sort++) {
                Check.due("put", x.cell(sort, 1, p[0]), 1);
                Check.due(p[0] + " as sort " + sort, read(x, sort, sort, 1), p[1 + sort]);
            }
        }
        Check.due("beside it", read(x, 0, 0, 0), 0);
        Check.due("beside it", read(x, 0, 0, 2), 0);
    }

    private static void copies() {
        TwoHeads x = new TwoHeads();
        x.sheet(0, 2, 5);
        x.sheet(1, 2, 3);
        x.sheet(2, 1, 5);
        for (int i = 0; i < 5; i++) x.cell(0, i, 10 + i);
        Check.due("copy", x.copy(0, 2, 1, 0, 3), 3);
        for (int i = 0; i < 3; i++) Check.due("copied", read(x, 1, 2, i), 12 + i);
        Check.due("copy", x.copy(0, 0, 1, 2, 1), 1);
        Check.due("copied", read(x, 1, 2, 2), 10);
        Check.due("none", x.copy(0, 5, 1, 3, 0), 0);
        int[][] outside = {{0, 0, 4}, {3, 0, 3}, {0, 1, 3}, {-1, 0, 1}, {0, -1, 1}, {0, 0, -1}, {6, 0, 0}, {0, 4, 0},
            {MAX, 0, 1}, {0, MAX, 1}, {0, 0, MAX}, {1, 1, MAX}, {MIN, 0, MIN}, {0, 0, MIN}, {MAX, MAX, MAX}};
        for (int[] o : outside) Check.due("outside", x.copy(0, o[0], 1, o[1], o[2]), -12);
        Check.due("nothing changed", read(x, 1, 2, 0), 12);
        Check.due("unlike sorts ahead of outside", x.copy(0, -1, 2, 0, -1), -13);
        Check.due("unlike sorts though none", x.copy(0, 0, 2, 0, 0), -13);
        Check.due("missing ahead of all", x.copy(0, -1, 3, 0, -1), -11);
        Check.due("missing", x.copy(3, 0, 0, 0, 0), -11);
        Check.due("missing both", x.copy(3, 0, 3, 0, 0), -11);
        for (int bad : new int[] {-1, 4, MIN, MAX}) {
            Check.due("no such sheet", x.copy(bad, 0, 3, 0, -1), -2);
            Check.due("no such sheet", x.copy(3, 0, bad, 0, -1), -2);
        }
    }

    private static void copiesOntoItself() {
        for (int sort = 0; sort < 3; sort++) {
            TwoHeads x = new TwoHeads();
            x.sheet(0, sort, 5);
            for (int i = 0; i < 5; i++) x.cell(0, i, 10 + i);
            Check.due("up", x.copy(0, 0, 0, 1, 4), 4);
            int[] up = {10, 10, 11, 12, 13};
            for (int i = 0; i < 5; i++) Check.due("as they were", read(x, 0, sort, i), up[i]);
            Check.due("down", x.copy(0, 2, 0, 0, 3), 3);
            int[] down = {11, 12, 13, 12, 13};
            for (int i = 0; i < 5; i++) Check.due("as they were", read(x, 0, sort, i), down[i]);
        }
    }

    private static void rows() {
        TwoHeads x = new TwoHeads();
        for (int bad : new int[] {-1, 4, MIN, MAX}) Check.due("no such sheet", x.seatsRow(bad, 0, 0, 1), -2);
        for (int bad : new int[] {-1, 3, MIN, MAX}) Check.due("no such sort", x.seatsRow(0, bad, 0, 1), -2);
        for (int bad : new int[] {-1, 9, MIN, MAX}) Check.due("no such n", x.seatsRow(0, 0, 0, bad), -2);
        Check.due("missing", x.seatsRow(0, 2, 0, 1), -11);
        Check.due("missing ahead of outside", x.seatsRow(0, 0, -1, 1), -11);
        x.sheet(0, 2, 40);
        Check.due("another sort ahead of outside", x.seatsRow(0, 1, 99, 8), -13);
        for (int i = 0; i < 8; i++) x.cell(0, 32 + i, i == 3 ? 100 : i == 4 ? -1 : 90 + i);
        for (int land = 0; land < 8; land++) x.seats(land, land);
        Check.due("told", x.seatsRow(0, 2, 32, 8), 6);
        for (int land = 0; land < 8; land++) {
            Check.due("seats", x.seats(land, 0), land == 3 || land == 4 ? land : 90 + land);
        }
        Check.due("none", x.seatsRow(0, 2, 40, 0), 0);
        Check.due("none of any place", x.seatsRow(0, 2, -7, 0), 0);
        x.cell(0, 0, 99);
        Check.due("99 is one", x.seatsRow(0, 2, 0, 1), 1);
        Check.due("99 is one", x.seats(0, 0), 99);
        x.cell(0, 0, 65536 + 5);
        Check.due("an int is not cut", x.seatsRow(0, 2, 0, 1), 0);
    }

    private static void rowsCutOff() {
        TwoHeads x = new TwoHeads();
        x.sheet(0, 1, 4);
        for (int i = 0; i < 4; i++) x.cell(0, i, 11 * (i + 1));
        Check.due("outside", x.seatsRow(0, 1, 2, 3), -12);
        Check.due("what stood ahead was told", x.seats(0, 0), 33);
        Check.due("what stood ahead was told", x.seats(1, 0), 44);
        Check.due("but no more", x.seats(2, 0), 0);
        for (int bad : new int[] {-1, 4, MIN, MAX, MAX - 1}) Check.due("outside at once", x.seatsRow(0, 1, bad, 8), -12);
        Check.due("nothing told", x.seats(0, 0), 0);
        Check.due("nothing told", x.seats(1, 0), 0);
    }
}
