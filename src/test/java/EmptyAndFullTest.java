/**
 * Each call on a new object, and on one in which all is full: the last of each row counts as the first one does. Promises
 * 1 to 44; what is refused then stands in RefusalsTest.
 */
public final class EmptyAndFullTest {
    private static final int ALL_ACTS = (1 << 24) - 1;

    public static void main(String[] args) {
        newLands();
        newActs();
        newChoices();
        newSheets();
        numbering();
        lastActs();
        lastOffice();
        lastTurnAndPayment();
        lastElector();
        lastLand();
        lastClause();
        lastText();
        lastCall();
        Check.end();
    }

    private static void newLands() {
        for (int a = 0; a < 8; a++) {
            for (int b = 0; b < 8; b++) {
                Check.due("far " + a + " " + b, new TwoHeads().far(a, b), a == b ? 0 : 999);
                if (a != b) Check.due("road " + a + " " + b, new TwoHeads().road(a, b, 1), 999);
            }
            for (int day : new int[] {0, 1, 9998, 9999}) {
                Check.due("side", new TwoHeads().side(a, day), 0);
                Check.due("changed, without ACTS", new TwoHeads().changed(a, day, 1), 0);
            }
            Check.due("person", new TwoHeads().person(a), 0);
            Check.due("turn", new TwoHeads().turn(a, 9999, 1), 0);
        }
        for (int office = 0; office < 6; office++) {
            Check.due("office", new TwoHeads().office(office, 7), 0);
            Check.due("nobody sits there", new TwoHeads().seat(office, -1), -1);
            Check.due("told", new TwoHeads().officeTold(office, 0), 0);
            Check.due("told", new TwoHeads().officeTold(office, 1), -1);
        }
        int[] due = {0, 0, 0, 0, 0, 0, 1, 0, 0, 0, 0};
        for (int what = 0; what <= 10; what++) Check.due("count " + what, new TwoHeads().count(what), due[what]);
    }

    private static void newActs() {
        TwoHeads x = new TwoHeads();
        Check.due("quarrels", x.quarrels(0), 0);
        Check.due("quarrels", x.quarrels(9999), 0);
        for (int side = 0; side < 3; side++) {
            for (int what = 0; what < 4; what++) Check.due("acts", x.acts(side, what), 0);
            Check.due("in force", x.inForce(side, 0), 0);
            Check.due("in force", x.inForce(side, 9999), 0);
            for (int office = 0; office < 6; office++) Check.due("by right", x.byRight(side, office, 9999), -1);
            Check.due("owed", x.owed(side, -1), 0);
            Check.due("its TEXT is TEXT 0", x.rule(side, 0), 0);
        }
        Check.due("an empty TAPE is no TEXT", x.text(), -100);
        Check.due("feed", x.feed(1, 0), 1);
        Check.due("the first TEXT that is read", Check.text(new TwoHeads(), "binds 0;saved 0;"), 1);
    }

    private static void newChoices() {
        TwoHeads x = new TwoHeads();
        Check.due("nobody to be bought", x.bought(0), -1);
        Check.due("nobody to be bought", x.bought(1), -1);
        for (int land = 0; land < 8; land++) {
            Check.due("no SEATS", x.council(land, 999, 1, 9999), -1);
            Check.due("no others", x.journey(land, 0, -1), 0);
            Check.due("no others", x.journey(land, 0, 0), -1);
            Check.due("itself alone", x.journey(land, 1 << land, -1), 0);
            Check.due("itself alone", x.journey(land, 1 << land, 0), -1);
            Check.due("all others, none come to", x.journey(land, 255, -1), 0);
            for (int i = 0; i < 7; i++) Check.due("the lesser first", x.journey(land, 255, i), i < land ? i : i + 1);
            Check.due("no more of them", x.journey(land, 255, 7), -1);
            Check.due("seats", x.seats(land, 0), 0);
            Check.due("bound", x.bound(land, 0), 0);
        }
        for (int n = 0; n <= 8; n++) {
            Check.due("the empty set", x.settling(n, 0), 0);
            Check.due("it undoes none", x.settling(n, 1), 0);
            Check.due("all LANDS take it", x.settling(n, 2), 255);
        }
        Check.due("elector", x.elector(0, 0), 0);
        Check.due("clause", x.clause(0), 0);
        for (int land = 0; land < 8; land++) Check.due("worth 0 at first", x.worth(0, land, 0), 0);
    }

    private static void newSheets() {
        for (int sheet = 0; sheet < 4; sheet++) {
            TwoHeads x = new TwoHeads();
            Check.due("missing", x.cell(sheet, 0, 0), -11);
            for (int sort = 0; sort < 3; sort++) Check.due("missing", x.seatsRow(sheet, sort, 0, 0), -11);
            Check.due("becomes missing", x.sheet(sheet, -1, 0), 1);
            Check.due("missing", x.copy(sheet, 0, sheet, 0, 0), -11);
            Check.due("of none", x.sheet(sheet, 0, 0), 1);
            Check.due("of none", x.cell(sheet, 0, 0), -12);
            Check.due("none of none", x.copy(sheet, 0, sheet, 0, 0), 0);
            Check.due("one of none", x.copy(sheet, 0, sheet, 0, 1), -12);
            Check.due("one of none", x.seatsRow(sheet, 0, 0, 1), -12);
        }
    }

    private static void numbering() {
        TwoHeads x = new TwoHeads();
        for (int i = 0; i < 12; i++) Check.due("person", x.person(7), i);
        for (int i = 0; i < 24; i++) Check.due("act", x.act(5, 11, 99, 9999, 1), i);
        for (int i = 0; i < 30; i++) Check.due("turn", x.turn(7, 9999, 1), i);
        for (int i = 0; i < 30; i++) Check.due("pay", x.pay(5, 11, 9999, 9999), i);
        for (int i = 0; i < 10; i++) Check.due("elector", x.elector(999, 1), i);
        for (int i = 0; i < 8; i++) Check.due("clause", x.clause(ALL_ACTS), i);
        for (int i = 1; i < 6; i++) Check.due("text", Check.text(x, "binds 1;saved 0;"), i);
        for (int i = 1; i <= 20; i++) Check.due("feed", x.feed(8, -1), 8 * i);
        int[] due = {12, 24, 30, 30, 10, 8, 6, 160, 0, 0, 0};
        for (int what = 0; what <= 10; what++) Check.due("count " + what, x.count(what), due[what]);
    }

    /** 24 ACTS, of which each one hangs on the next and the last on the first: the longest ring there can be. */
    private static void lastActs() {
        TwoHeads x = new TwoHeads();
        x.person(0);
        for (int i = 0; i < 24; i++) x.act(0, 0, 0, i, 0);
        for (int i = 0; i < 23; i++) Check.due("hang", x.hang(0, 23 - i), i + 1);
        Check.due("on all but itself", x.actTold(0, 7), ALL_ACTS - 1);
        for (int what = 0; what < 3; what++) Check.due("all", x.acts(0, what), ALL_ACTS);
        for (int i = 1; i < 24; i++) x.hang(i, (i + 1) % 24);
        Check.due("all GOOD", x.acts(0, 1), ALL_ACTS);
        Check.due("none FIRM", x.acts(0, 2), 0);
        Check.due("one RING of all", x.acts(0, 3), ALL_ACTS);
        Check.due("all fall with the last", x.felled(0, 23), ALL_ACTS);
        Check.due("all fall with the first", x.felled(2, 0), ALL_ACTS);
        Check.due("all in force", x.inForce(0, 23), ALL_ACTS);
        Check.due("all but the last", x.inForce(0, 22), ALL_ACTS >> 1);
        Check.due("all changed", x.changed(0, 0, 1), ALL_ACTS);
        Check.due("the last one changed", x.changed(0, 23, 1), 1 << 23);
        Check.due("none changed", x.changed(0, 24, 1), 0);
        Check.due("told of the last", x.actTold(23, 3), 23);
        Check.due("known", x.known(23, 0), 23);
        Check.due("crossed", x.crossed(23, 0), 0);
        Check.due("says", x.says(2, 23, 0), 1);
        Check.due("taken", x.taken(23, 0), 1);
        x.clause(1 << 23);
        Check.due("the last one undone", x.settling(8, 1), 1);
        x.clause(ALL_ACTS);
        Check.due("all undone", x.settling(8, 1), 24);
    }

    private static void lastOffice() {
        TwoHeads x = new TwoHeads();
        for (int i = 0; i < 12; i++) x.person(i % 8);
        Check.due("the last PERSON is named for the last OFFICE", x.act(1, 0, 71, 100, 0), 0);
        Check.due("by right", x.byRight(0, 5, 100), 11);
        Check.due("not the OFFICE ahead of it", x.byRight(0, 4, 100), -1);
        Check.due("nobody under the other SIDE", x.quarrels(100), 1 << 5);
        Check.due("he sits there", x.seat(5, 11), -1);
        Check.due("told", x.officeTold(5, 1), 11);
        Check.due("its LAND", x.office(5, 7), 0);
        Check.due("its LAND", x.officeTold(5, 0), 7);
    }

    private static void lastTurnAndPayment() {
        TwoHeads x = new TwoHeads();
        for (int i = 0; i < 12; i++) x.person(0);
        for (int i = 0; i < 29; i++) x.turn(7, 100, 0);
        Check.due("before", x.side(7, 100), 0);
        Check.due("the last TURN", x.turn(7, 100, 1), 29);
        Check.due("it holds", x.side(7, 100), 1);
        Check.due("not ahead of its DAY", x.side(7, 99), 0);
        x.act(1, 0, 11, 100, 0);
        for (int i = 0; i < 29; i++) x.pay(0, 11, 9999, 100);
        Check.due("to the right one", x.owed(0, -1), 0);
        Check.due("the last PAYMENT", x.pay(0, 0, 9999, 100), 29);
        Check.due("it was wrong", x.owed(0, -1), 9999);
        Check.due("it is owed to the last PERSON", x.owed(0, 11), 9999);
        Check.due("to nobody else", x.owed(0, 10), 0);
    }

    private static void lastElector() {
        TwoHeads x = new TwoHeads();
        for (int i = 0; i < 9; i++) x.elector(999, 0);
        x.elector(998, 0);
        Check.due("the last one costs least", x.bought(0), 0x21F);
        Check.due("six of ten", x.bought(1), 5 * 999 + 998);
        for (int i = 0; i < 5; i++) x.clash(9, i);
        Check.due("only dearer ones go with one another", x.bought(0), 0x3F);
        x.clash(0, 1);
        x.clash(2, 3);
        x.clash(4, 5);
        Check.due("one of each pair", x.bought(0), 0x1D5);
        x.clash(6, 7);
        Check.due("five are too few", x.bought(0), -1);
        Check.due("five are too few", x.bought(1), -1);
        TwoHeads y = new TwoHeads();
        for (int i = 0; i < 10; i++) y.elector(999, 1);
        Check.due("all are for us", y.bought(0), 0);
        Check.due("it costs nothing", y.bought(1), 0);
        TwoHeads z = new TwoHeads();
        for (int i = 0; i < 10; i++) z.elector(999, i < 5 ? 1 : 0);
        Check.due("half is not more than half", z.bought(0), 0x20);
        Check.due("one more", z.bought(1), 999);
    }

    private static void lastLand() {
        TwoHeads x = new TwoHeads();
        for (int land = 0; land < 8; land++) x.seats(land, 99);
        for (int land = 0; land < 7; land++) x.road(land, land + 1, 99);
        x.turn(7, 9999, 1);
        Check.due("far", x.far(0, 7), 693);
        Check.due("the last LAND is called", x.council(7, 99, 198, 9999), 0xC0);
        Check.due("on its own", x.council(7, 0, 2, 0), 0x80);
        Check.due("on the day ahead it holds to SIDE 0", x.council(7, 99, 198, 9998), -1);
        x.bound(7, 999);
        Check.due("the longest journey", x.journey(0, 254, -1), 1);
        Check.due("straight to the last", x.journey(0, 128, 0), 7);
        int[] due = {1, 2, 3, 4, 5, 6, 7};
        for (int i = 0; i < 7; i++) Check.due("LAND " + i, x.journey(0, 254, i), due[i]);
    }

    private static void lastClause() {
        TwoHeads x = new TwoHeads();
        for (int i = 0; i < 8; i++) x.clause(0);
        Check.due("all of them", x.settling(8, 0), 255);
        for (int i = 0; i < 8; i++) x.worth(i, 7, i < 7 ? -14 : 98);
        Check.due("the sum is 0", x.settling(8, 2), 255);
        Check.due("the sum is 0", x.settling(8, 0), 255);
        x.worth(7, 7, 97);
        Check.due("the sum is -1", x.settling(8, 0), 0xBF);
        Check.due("seven LANDS take all", x.settling(7, 0), 255);
        Check.due("all but the last", x.settling(7, 2), 127);
        for (int i = 0; i < 8; i++) for (int land = 0; land < 8; land++) x.worth(i, land, -99);
        Check.due("nobody takes any", x.settling(1, 0), 0);
        Check.due("nobody need", x.settling(0, 0), 255);
        for (int i = 0; i < 8; i++) for (int land = 0; land < 8; land++) x.worth(i, land, 99);
        Check.due("all take all", x.settling(8, 0), 255);
    }

    private static void lastText() {
        TwoHeads x = new TwoHeads();
        x.person(0);
        x.act(0, 0, 0, 0, 0);
        for (int i = 1; i < 6; i++) Check.text(x, "binds " + i + ";saved " + 10 * i + ";");
        for (int i = 0; i < 6; i++) {
            Check.due("which was", x.rule(2, i), Math.max(0, i - 1));
            Check.due("binds", x.says(2, 0, 0), i == 0 ? 1 : i);
            Check.due("saved", x.says(2, 0, 1), 10 * i);
        }
        Check.due("the last TEXT", x.count(10), 5);
    }

    /** An object is used for 512 calls: the last one of them still answers. */
    private static void lastCall() {
        TwoHeads x = new TwoHeads();
        for (int i = 0; i < 509; i++) {
            Check.due("road", x.road(i % 7, 7, 1 + i % 99), i < 7 ? 999 : 1 + (i - 7) % 99);
        }
        Check.due("call 510", x.far(0, 7), 1 + 504 % 99);
        Check.due("call 511", x.journey(7, 127, 6), 6);
        Check.due("call 512", x.person(0), 0);
        TwoHeads y = new TwoHeads();
        for (int i = 0; i < 511; i++) {
            if (i % 2 == 0) y.feed(8, -1);
            else Check.due("a fault each time", y.text(), -100);
        }
        Check.due("call 512", y.text(), -100);
    }
}
