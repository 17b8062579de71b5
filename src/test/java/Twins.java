import java.util.ArrayList;
import java.util.List;
import java.util.function.Consumer;
import java.util.function.ToLongFunction;

/**
 * Two objects that were told the same. A call that one of them refuses must leave it such that all later calls answer
 * as the other one's do. What is asked later changes the objects, so each part of the asking has a pair of its own.
 */
final class Twins {
    private static final int PARTS = 6;
    // Telling the fullest state takes some 200 calls, and an object is good for 512.
    private static final int MOST_ASKED = 300;

    private Twins() {
    }

    static void refuse(String what, Consumer<TwoHeads> state, ToLongFunction<TwoHeads> call, long due) {
        for (int part = 0; part < PARTS; part++) {
            TwoHeads one = new TwoHeads();
            TwoHeads other = new TwoHeads();
            state.accept(one);
            state.accept(other);
            Check.due(what, call.applyAsLong(one), due);
            List<Long> left = ask(one, part);
            Check.holds(what + " changes nothing, part " + part, left.equals(ask(other, part)));
            Check.holds("not too much is asked, part " + part, left.size() <= MOST_ASKED);
        }
    }

    private static List<Long> ask(TwoHeads x, int part) {
        List<Long> answers = new ArrayList<>();
        for (int what = 0; what <= 10; what++) answers.add((long) x.count(what));
        switch (part) {
            case 0: askLands(x, answers); break;
            case 1: askActs(x, answers); break;
            case 2: askCourt(x, answers); break;
            case 3: askTexts(x, answers); break;
            case 4: askChoices(x, answers); break;
            default: askSheets(x, answers); break;
        }
        return answers;
    }

    private static void askLands(TwoHeads x, List<Long> answers) {
        for (int a = 0; a < 8; a++) {
            for (int b = a; b < 8; b++) answers.add((long) x.far(a, b));
            for (int day : new int[] {0, 50, 9998, 9999}) answers.add((long) x.side(a, day));
            answers.add((long) x.seats(a, 0));
            answers.add((long) x.bound(a, 0));
        }
        for (int a = 0; a < 8; a++) for (int b = a + 1; b < 8; b++) answers.add((long) x.road(a, b, 999));
        for (int office = 0; office < 6; office++) {
            answers.add((long) x.officeTold(office, 0));
            answers.add((long) x.officeTold(office, 1));
        }
        for (int i = 0; i < 13; i++) answers.add((long) x.person(i % 8));
        for (int i = 0; i < 31; i++) answers.add((long) x.turn(i % 8, i, 1));
    }

    private static void askActs(TwoHeads x, List<Long> answers) {
        for (int act = 0; act < 24; act++) {
            for (int what = 0; what < 8; what++) answers.add((long) x.actTold(act, what));
            answers.add((long) x.lift(act, 9999));
        }
        for (int i = 0; i < 25; i++) answers.add((long) x.act(0, 0, 0, 0, 0));
    }

    private static void askCourt(TwoHeads x, List<Long> answers) {
        for (int side = 0; side < 3; side++) {
            for (int act = 0; act < 24; act++) {
                answers.add(x.says(side, act, 0));
                answers.add(x.says(side, act, 1));
            }
            for (int what = 0; what < 4; what++) answers.add((long) x.acts(side, what));
            for (int day : new int[] {0, 310, 9999}) answers.add((long) x.inForce(side, day));
            for (int office = 0; office < 6; office++) answers.add((long) x.byRight(side, office, 500));
            for (int person = -1; person < 12; person++) answers.add(x.owed(side, person));
        }
        for (int land = 0; land < 8; land++) answers.add((long) x.changed(land, 0, 1));
        for (int i = 0; i < 31; i++) answers.add((long) x.pay(0, 0, 1, 0));
    }

    /** Each TEXT by what it says of ACT 0; THE TAPE by the TEXT that it becomes. */
    private static void askTexts(TwoHeads x, List<Long> answers) {
        for (int text = 0; text < 6; text++) {
            answers.add((long) x.rule(1, text));
            answers.add(x.says(1, 0, 0));
            answers.add(x.says(1, 0, 1));
        }
        answers.add((long) Check.text(x, "2;saved 77;"));
        for (int text = 1; text < 6; text++) {
            answers.add((long) x.rule(2, text));
            answers.add(x.says(2, 0, 0));
            answers.add(x.says(2, 0, 1));
            answers.add((long) Check.text(x, "binds " + text + ";saved 0;"));
        }
    }

    private static void askChoices(TwoHeads x, List<Long> answers) {
        answers.add((long) x.bought(0));
        answers.add((long) x.bought(1));
        for (int n = 0; n <= 8; n++) for (int what = 0; what < 3; what++) answers.add((long) x.settling(n, what));
        for (int land = 0; land < 8; land++) {
            answers.add((long) x.council(land, 50, 20, 60));
            answers.add((long) x.journey(0, 255, land - 1));
            for (int clause = 0; clause < 8; clause++) answers.add((long) x.worth(clause, land, 0));
        }
        for (int a = 0; a < 8; a++) for (int b = a + 1; b < 8; b++) answers.add((long) x.against(a, b));
        for (int a = 0; a < 10; a++) for (int b = a + 1; b < 10; b++) answers.add((long) x.clash(a, b));
        for (int i = 0; i < 11; i++) answers.add((long) x.elector(1, 0));
        for (int i = 0; i < 9; i++) answers.add((long) x.clause(1));
        answers.add((long) x.bought(0));
        answers.add((long) x.settling(8, 0));
    }

    /** The numbers of a SHEET by the SEATS that they become: 8 at a time, those behind its end stay 50. */
    private static void askSheets(TwoHeads x, List<Long> answers) {
        for (int land = 0; land < 8; land++) answers.add((long) x.seats(land, 50));
        for (int sheet = 0; sheet < 4; sheet++) {
            for (int sort = 0; sort < 3; sort++) {
                if (x.seatsRow(sheet, sort, 0, 0) != 0) continue;
                answers.add((long) sort);
                for (int from = 0; from <= 40; from += 8) {
                    answers.add((long) x.seatsRow(sheet, sort, from, 8));
                    for (int land = 0; land < 8; land++) answers.add((long) x.seats(land, 50));
                }
            }
            answers.add((long) x.cell(sheet, 0, 0));
        }
    }
}
