/** Promises 1 to 10: a new object, roads, persons, offices, turns. */
public final class LandsTest {
    private static final int MIN = Integer.MIN_VALUE, MAX = Integer.MAX_VALUE;

    public static void main(String[] args) {
        newObject();
        roads();
        ways();
        persons();
        offices();
        turns();
        changedByTurn();
        changedByTexts();
        Check.end();
    }

    private static void newObject() {
        TwoHeads x = new TwoHeads();
        for (int what = 0; what <= 10; what++) Check.due("new count " + what, x.count(what), what == 6 ? 1 : 0);
        for (int land = 0; land < 8; land++) {
            Check.due("new side", x.side(land, 0), 0);
            Check.due("new side", x.side(land, 9999), 0);
            Check.due("new far", x.far(land, (land + 1) % 8), 999);
            Check.due("new far to itself", x.far(land, land), 0);
        }
        Check.due("new acts", x.acts(0, 1), 0);
        Check.due("new inForce", x.inForce(2, 5), 0);
        Check.due("two objects are apart", new TwoHeads().person(3), 0);
        Check.due("count is its own", x.count(0), 0);
    }

    private static void roads() {
        TwoHeads x = new TwoHeads();
        Check.due("road", x.road(2, 5, 99), 999);
        Check.due("both ways alike", x.road(5, 2, 1), 99);
        Check.due("taken away", x.road(2, 5, 999), 1);
        Check.due("there is none", x.road(2, 5, 7), 999);
        int[][] bad = {{-1, 0, 5}, {0, -1, 5}, {8, 0, 5}, {0, 8, 5}, {3, 3, 5}, {2, 5, 0}, {2, 5, 100},
            {2, 5, 998}, {2, 5, 1000}, {2, 5, -1}, {MIN, MAX, 5}, {2, 5, MAX}, {2, 5, MIN}};
        for (int[] b : bad) Check.due("bad road", x.road(b[0], b[1], b[2]), -2);
        Check.due("refusals change nothing", x.far(2, 5), 7);
        Check.due("bad far", x.far(-1, 0), -2);
        Check.due("bad far", x.far(0, 8), -2);
        Check.due("bad far", x.far(MAX, MIN), -2);
    }

    private static void ways() {
        TwoHeads x = new TwoHeads();
        for (int land = 0; land < 7; land++) x.road(land, land + 1, 99);
        Check.due("the longest way", x.far(0, 7), 693);
        Check.due("the longest way back", x.far(7, 0), 693);
        x.road(0, 6, 50);
        Check.due("shorter round about", x.far(0, 7), 149);
        Check.due("shorter round about", x.far(1, 6), 149);
        Check.due("a ROAD longer than the way", x.road(5, 6, 999), 99);
        Check.due("the ROAD is gone", x.far(5, 6), 99 * 5 + 50);
        x.road(6, 7, 999);
        Check.due("no way", x.far(3, 7), 999);
        Check.due("itself", x.far(7, 7), 0);
        x.road(0, 1, 3);
        x.road(1, 2, 3);
        x.road(0, 2, 9);
        Check.due("two ROADS are shorter than one", x.far(0, 2), 6);
        Check.due("but the ROAD is as it was", x.road(0, 2, 9), 9);
    }

    private static void persons() {
        TwoHeads x = new TwoHeads();
        Check.due("bad person", x.person(-1), -2);
        Check.due("bad person", x.person(8), -2);
        for (int p = 0; p < 12; p++) Check.due("person", x.person(p % 8), p);
        Check.due("full", x.person(0), -4);
        Check.due("bad goes ahead of full", x.person(8), -2);
        Check.due("count", x.count(0), 12);
    }

    private static void offices() {
        TwoHeads x = new TwoHeads();
        Check.due("office", x.office(5, 7), 0);
        Check.due("office", x.office(5, 2), 7);
        Check.due("told", x.officeTold(5, 0), 2);
        Check.due("told", x.officeTold(4, 0), 0);
        for (int bad : new int[] {-1, 6, MIN, MAX}) {
            Check.due("bad office", x.office(bad, 0), -2);
            Check.due("bad told", x.officeTold(bad, 0), -2);
            Check.due("bad seat", x.seat(bad, -1), -5);
        }
        Check.due("bad land", x.office(0, 8), -2);
        Check.due("bad land", x.office(0, -1), -2);
        Check.due("bad what", x.officeTold(0, 2), -2);
        Check.due("bad what", x.officeTold(0, -1), -2);
        Check.due("nobody sits", x.officeTold(5, 1), -1);
        Check.due("no such person", x.seat(5, 0), -5);
        x.person(0);
        x.person(0);
        Check.due("sits", x.seat(5, 0), -1);
        Check.due("sits", x.seat(5, 1), 0);
        Check.due("told", x.officeTold(5, 1), 1);
        Check.due("no such person", x.seat(5, 2), -5);
        Check.due("no such person", x.seat(5, -2), -5);
        Check.due("nobody again", x.seat(5, -1), 1);
        Check.due("told", x.officeTold(5, 1), -1);
        Check.due("in fact is not by right", x.byRight(2, 5, 0), -1);
    }

    private static void turns() {
        TwoHeads x = new TwoHeads();
        int[][] bad = {{-1, 0, 0}, {8, 0, 0}, {0, -1, 0}, {0, 10000, 0}, {0, 0, -1}, {0, 0, 2}, {MIN, 0, 0}, {0, MAX, 0}};
        for (int[] b : bad) {
            Check.due("bad turn", x.turn(b[0], b[1], b[2]), -2);
            Check.due("bad changed", x.changed(b[0], b[1], b[2]), -2);
        }
        Check.due("turn", x.turn(3, 100, 1), 0);
        Check.due("before", x.side(3, 99), 0);
        Check.due("from the day on", x.side(3, 100), 1);
        Check.due("to the end", x.side(3, 9999), 1);
        Check.due("another land", x.side(4, 100), 0);
        Check.due("an earlier day told later", x.turn(3, 50, 0), 1);
        Check.due("the greater day wins", x.side(3, 100), 1);
        Check.due("like days", x.turn(3, 100, 0), 2);
        Check.due("the one told last wins", x.side(3, 100), 0);
        Check.due("day 0", x.turn(5, 0, 1), 3);
        Check.due("day 0", x.side(5, 0), 1);
        Check.due("day 9999", x.turn(5, 9999, 0), 4);
        Check.due("day 9998", x.side(5, 9998), 1);
        Check.due("day 9999", x.side(5, 9999), 0);
        Check.due("bad side", x.side(8, 0), -2);
        Check.due("bad side", x.side(-1, 0), -2);
        Check.due("bad side", x.side(0, -1), -2);
        Check.due("bad side", x.side(0, 10000), -2);
        for (int t = 5; t < 30; t++) Check.due("turn", x.turn(6, t, t & 1), t);
        Check.due("full", x.turn(0, 0, 1), -4);
        Check.due("bad ahead of full", x.turn(0, 0, 2), -2);
        Check.due("nothing changed", x.side(0, 5), 0);
        Check.due("changed is no turn and never full", x.changed(0, 0, 1), 0);
        Check.due("count", x.count(2), 30);
    }

    private static void changedByTurn() {
        TwoHeads x = new TwoHeads();
        x.person(0);
        x.person(1);
        for (int day = 0; day < 6; day++) x.act(0, day == 5 ? 1 : 0, 0, day * 10, 0);
        Check.due("all of the land", x.changed(0, 0, 1), 0x1F);
        Check.due("the other land", x.changed(1, 0, 1), 0x20);
        Check.due("from a day on", x.changed(0, 20, 1), 0x1C);
        Check.due("from behind a day on", x.changed(0, 21, 1), 0x18);
        Check.due("to the side that it holds to", x.changed(0, 0, 0), 0);
        x.turn(0, 30, 0);
        Check.due("a later turn holds", x.changed(0, 10, 1), 0x6);
        Check.due("of like days the supposed one is last", x.changed(0, 30, 1), 0x18);
        x.turn(0, 20, 1);
        Check.due("to 0 in between", x.changed(0, 20, 0), 0x4);
        Check.due("from behind the last turn on", x.changed(0, 31, 1), 0x10);
        Check.due("on the day of an act", x.changed(0, 40, 1), 0x10);
        Check.due("a day behind it", x.changed(0, 41, 1), 0);
        Check.due("from the last day of all on", x.changed(0, 9999, 1), 0);
        Check.due("it isn't done", x.side(0, 20), 1);
        Check.due("it isn't done", x.count(2), 2);
        Check.due("nobody of it", x.changed(7, 0, 1), 0);
    }

    private static void changedByTexts() {
        TwoHeads x = new TwoHeads();
        x.person(0);
        x.act(0, 0, 0, 10, 0);
        int always = Check.text(x, "binds 1; saved 0;");
        x.rule(0, always);
        Check.due("under one SIDE is enough", x.changed(0, 0, 1), 1);
        x.rule(1, always);
        Check.due("sound under both whatever it holds to", x.changed(0, 0, 1), 0);
        x.rule(2, Check.text(x, "binds same; saved 0;"));
        Check.due("SIDE 2 does not count", x.changed(0, 0, 1), 0);
        x.rule(0, Check.text(x, "binds not same; saved 0;"));
        Check.due("not sound and would be", x.changed(0, 0, 1), 1);
        x.rule(0, Check.text(x, "binds same + 1; saved same;"));
        Check.due("another value, but sound still", x.changed(0, 0, 1), 0);
        x.rule(0, Check.text(x, "binds -same; saved same;"));
        Check.due("what is below 0 is true", x.changed(0, 0, 1), 1);
    }
}
