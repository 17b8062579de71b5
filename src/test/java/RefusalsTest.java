import java.lang.reflect.Method;
import java.util.Arrays;
import java.util.function.Consumer;
import java.util.function.ToLongFunction;

/**
 * Promises 2 to 44 and Terms 1: each number of each call at its least and its most, one beyond them and far beyond them;
 * FULL; the first refusal that the call's words name. And each refused call changes nothing.
 */
public final class RefusalsTest {
    private static final int NONE = -1, BAD = -2, STATE = -3, FULL = -4;
    private static final int MIN = Integer.MIN_VALUE, MAX = Integer.MAX_VALUE;

    /** A number of a call: a right one, the least and the most that are right. */
    private record Span(int right, int least, int most) { }

    public static void main(String[] args) {
        landsAndPersons();
        acts();
        courts();
        choices();
        host();
        roads();
        namings();
        bans();
        noneSuchYet();
        full();
        first();
        firstOfTheHost();
        states();
        Check.end();
    }

    private static Span of(int right, int least, int most) {
        return new Span(right, least, most);
    }

    /** A number that is asked about elsewhere. */
    private static Span only(int right) {
        return new Span(right, right, right);
    }

    /** A number that may be any. */
    private static Span any(int right) {
        return new Span(right, MIN, MAX);
    }

    // ---- the states in which calls are made

    private static void nothing(TwoHeads x) {
    }

    /** 5 PERSONS, an ACT of each KIND, 4 ELECTORS, 4 CLAUSES, 3 TEXTS, a TAPE that is cut off, a SHEET of each sort. */
    private static void ordinary(TwoHeads x) {
        for (int i = 0; i < 5; i++) x.person(i);
        for (int i = 0; i < 4; i++) x.road(i, i + 1, 10 + i);
        x.turn(1, 50, 1);
        x.turn(2, 40, 1);
        x.turn(2, 60, 0);
        for (int kind = 0; kind < 6; kind++) x.act(kind, kind % 5, kind == 1 ? 27 : kind, kind == 4 ? 300 : 10 * kind, kind & 1);
        x.hang(0, 1);
        x.hang(5, 4);
        x.office(2, 3);
        x.seat(2, 4);
        x.pay(2, 1, 70, 400);
        x.pay(2, 3, 80, 400);
        for (int i = 0; i < 4; i++) {
            x.elector(5 + i, i / 3);
            x.clause(1 << i | 1);
            x.worth(i, 2, i - 2);
            x.seats(i, 20 + i);
            x.bound(i + 1, 30 + 10 * i);
        }
        x.clash(0, 1);
        x.against(0, 3);
        x.rule(1, Check.text(x, "binds 1;saved 0;"));
        x.rule(2, Check.text(x, "binds day<70;saved kind;"));
        Check.feed(x, "binds 4");
        for (int sort = 0; sort < 3; sort++) {
            x.sheet(sort, sort, 5 + sort);
            for (int i = 0; i < 5; i++) x.cell(sort, i, 10 * sort + i + 1);
        }
    }

    /** All rows are full; so is THE TAPE. */
    private static void allFull(TwoHeads x) {
        for (int i = 0; i < 12; i++) x.person(i % 8);
        for (int i = 0; i < 30; i++) x.turn(i % 8, 7 * i, i & 1);
        for (int i = 0; i < 24; i++) x.act(i % 6, i % 12, i % 12, 11 * i, i / 6 & 1);
        x.lift(4, 300);
        for (int i = 0; i < 23; i++) x.hang(i, i + 1);
        for (int i = 0; i < 30; i++) x.pay(i % 6, i % 12, 1 + i, 9 * i);
        for (int i = 0; i < 10; i++) x.elector(100 - i, 0);
        for (int i = 0; i < 8; i++) x.clause(1 << i);
        for (int text = 1; text < 6; text++) Check.text(x, "binds " + text + ";saved 0;");
        Check.feed(x, "binds 42;saved 77;" + " ".repeat(142));
    }

    /** The states are as their words say; else what is refused in them would say little. */
    private static void states() {
        int[] some = {5, 6, 3, 2, 4, 4, 3, 7, 0, 1, 2};
        int[] most = {12, 24, 30, 30, 10, 8, 6, 160, 0, 0, 0};
        TwoHeads x = new TwoHeads();
        TwoHeads y = new TwoHeads();
        ordinary(x);
        allFull(y);
        for (int what = 0; what <= 10; what++) {
            Check.due("ordinary count " + what, x.count(what), some[what]);
            Check.due("full count " + what, y.count(what), most[what]);
        }
        Check.due("the TAPE that is cut off", Check.text(x, "2;saved 77;"), 3);
    }

    // ---- each number of a call

    private static long call(TwoHeads x, String name, int... numbers) {
        for (Method m : TwoHeads.class.getDeclaredMethods()) {
            if (!m.getName().equals(name) || m.getParameterCount() != numbers.length) continue;
            Object[] args = new Object[numbers.length];
            for (int i = 0; i < args.length; i++) {
                boolean isLong = m.getParameterTypes()[i] == long.class;
                args[i] = isLong ? (Object) (long) numbers[i] : (Object) numbers[i];
            }
            try {
                return ((Number) m.invoke(x, args)).longValue();
            } catch (ReflectiveOperationException e) {
                throw new IllegalStateException(name + Arrays.toString(numbers), e);
            }
        }
        throw new IllegalStateException("no call " + name);
    }

    private static long ordinarily(String name, int... numbers) {
        TwoHeads x = new TwoHeads();
        ordinary(x);
        return call(x, name, numbers);
    }

    private static void refused(Consumer<TwoHeads> state, long due, String name, int... numbers) {
        Twins.refuse(name + Arrays.toString(numbers), state, x -> call(x, name, numbers), due);
    }

    private static void edges(String name, long refusal, Span... spans) {
        int[] right = new int[spans.length];
        for (int i = 0; i < right.length; i++) right[i] = spans[i].right;
        for (int i = 0; i < right.length; i++) {
            Span span = spans[i];
            if (span.least == span.most) continue;
            for (int n : new int[] {span.right, span.least, span.most}) {
                int[] numbers = right.clone();
                numbers[i] = n;
                Check.holds(name + Arrays.toString(numbers) + " is right", ordinarily(name, numbers) != refusal);
            }
            for (int n : new int[] {span.least - 1, span.most + 1, MIN, MAX}) {
                // Where all ints are right, none is beyond them.
                if (n >= span.least && n <= span.most) continue;
                int[] numbers = right.clone();
                numbers[i] = n;
                refused(RefusalsTest::ordinary, refusal, name, numbers);
            }
        }
    }

    private static void landsAndPersons() {
        Span land = of(3, 0, 7), day = of(50, 0, 9999), side = of(1, 0, 1), office = of(2, 0, 5);
        edges("road", BAD, land, of(4, 0, 7), of(5, 1, 99));
        edges("far", BAD, land, land);
        edges("person", BAD, land);
        edges("office", BAD, office, land);
        edges("seat", -5, office, of(2, -1, 4));
        edges("officeTold", BAD, office, of(0, 0, 1));
        edges("turn", BAD, land, day, side);
        edges("side", BAD, land, day);
        edges("changed", BAD, land, day, side);
    }

    private static void acts() {
        Span day = of(50, 0, 9999), act = of(2, 0, 5), side = of(1, 0, 2);
        edges("act", BAD, of(0, 0, 5), of(2, 0, 4), of(3, 0, 99), day, of(0, 0, 1));
        edges("hang", BAD, act, of(3, 0, 5));
        edges("lift", BAD, of(4, 0, 5), of(400, 300, 9999));
        edges("actTold", BAD, act, of(0, 0, 7));
        edges("feed", BAD, of(3, 1, 8), any(0));
        edges("rule", BAD, side, of(1, 0, 2));
        edges("says", TwoHeads.NO, side, act, of(0, 0, 1));
        edges("taken", BAD, any(2), of(2, 0, 5));
    }

    private static void courts() {
        Span day = of(50, 0, 9999), act = of(2, 0, 5), side = of(1, 0, 2), office = of(2, 0, 5);
        edges("acts", BAD, side, of(1, 0, 3));
        edges("felled", BAD, side, act);
        edges("inForce", BAD, side, day);
        edges("byRight", BAD, side, office, day);
        edges("quarrels", BAD, day);
        edges("known", BAD, act, of(3, 0, 7));
        edges("crossed", BAD, act, of(3, 0, 5));
        edges("pay", BAD, office, of(2, 0, 4), of(70, 1, 9999), day);
        edges("owed", TwoHeads.NO, side, of(2, -1, 4));
    }

    private static void choices() {
        Span land = of(3, 0, 7), day = of(50, 0, 9999), bound = of(50, 0, 999);
        edges("elector", BAD, of(5, 0, 999), of(0, 0, 1));
        edges("clash", BAD, of(1, 0, 3), of(2, 0, 3));
        edges("bought", BAD, of(0, 0, 1));
        edges("seats", BAD, land, of(5, 0, 99));
        edges("council", BAD, land, bound, of(20, 1, 999), day);
        edges("clause", BAD, of(5, 0, (1 << 24) - 1));
        edges("worth", -1000, of(1, 0, 3), land, of(5, -99, 99));
        edges("against", BAD, of(1, 0, 3), of(2, 0, 3));
        edges("settling", BAD, of(4, 0, 8), of(0, 0, 2));
        edges("bound", BAD, land, bound);
        edges("journey", BAD, land, of(6, 0, 255), any(0));
        edges("count", BAD, of(3, 0, 10));
    }

    private static void host() {
        Span sheet = of(1, 0, 3);
        edges("sheet", BAD, sheet, of(1, -1, 2), of(5, MIN, 40));
        edges("cell", BAD, sheet, any(2), any(7));
        edges("cell", -12, only(1), of(2, 0, 5), only(7));
        edges("copy", BAD, sheet, any(1), sheet, any(2), any(2));
        edges("copy", -12, only(1), of(1, 0, 4), only(1), of(2, 0, 4), of(2, 0, 4));
        edges("seatsRow", BAD, sheet, of(1, 0, 2), any(1), of(2, 0, 8));
        edges("seatsRow", -12, only(1), only(1), of(5, 0, 5), only(1));
        for (int n : new int[] {-1, -40, MIN}) refused(RefusalsTest::ordinary, -14, "sheet", 1, 2, n);
        for (int act : new int[] {-1, 6, 24, MIN, MAX}) refused(RefusalsTest::ordinary, -11, "taken", act, 0);
    }

    // ---- what a span does not tell

    private static void roads() {
        Check.due("there is none", ordinarily("road", 3, 4, 999), 13);
        for (int days : new int[] {998, 1000}) refused(RefusalsTest::ordinary, BAD, "road", 3, 4, days);
        for (int land = 0; land < 8; land++) refused(RefusalsTest::ordinary, BAD, "road", land, land, 5);
        for (int act = 0; act < 6; act++) {
            refused(RefusalsTest::ordinary, BAD, "hang", act, act);
            refused(RefusalsTest::ordinary, BAD, "crossed", act, act);
        }
        for (int i = 0; i < 4; i++) {
            refused(RefusalsTest::ordinary, BAD, "clash", i, i);
            refused(RefusalsTest::ordinary, BAD, "against", i, i);
        }
    }

    /** Of NAMINGS the number is 12 x OFFICE and a PERSON that there is; of each other KIND it is 0 .. 99. */
    private static void namings() {
        for (int on = -1; on <= 100; on++) {
            boolean named = on >= 0 && on < 72 && on % 12 < 5;
            if (named) Check.due("NAMING on " + on, ordinarily("act", 1, 2, on, 50, 0), 6);
            else refused(RefusalsTest::ordinary, BAD, "act", 1, 2, on, 50, 0);
        }
        for (int kind : new int[] {0, 2, 3, 4, 5}) {
            for (int on : new int[] {0, 71, 72, 99}) Check.due("on " + on, ordinarily("act", kind, 2, on, 50, 0), 6);
            for (int on : new int[] {-1, 100}) refused(RefusalsTest::ordinary, BAD, "act", kind, 2, on, 50, 0);
        }
    }

    private static void bans() {
        for (int kind : new int[] {0, 1, 2, 3, 5}) refused(RefusalsTest::ordinary, -13, "lift", kind, 300);
        Consumer<TwoHeads> lifted = x -> {
            ordinary(x);
            x.lift(4, 350);
        };
        for (int day : new int[] {300, 350, 351, 9999}) refused(lifted, STATE, "lift", 4, day);
        refused(RefusalsTest::ordinary, STATE, "hang", 0, 1);
        refused(RefusalsTest::ordinary, STATE, "hang", 5, 4);
    }

    /** On a new object no PERSON, ACT, ELECTOR, CLAUSE is such, nor a TEXT but TEXT 0, nor a SHEET that is there. */
    private static void noneSuchYet() {
        Consumer<TwoHeads> empty = RefusalsTest::nothing;
        refused(empty, -5, "seat", 0, 0);
        refused(empty, BAD, "act", 0, 0, 0, 0, 0);
        refused(empty, BAD, "hang", 0, 1);
        refused(empty, BAD, "lift", 0, 0);
        refused(empty, BAD, "actTold", 0, 0);
        refused(empty, BAD, "rule", 0, 1);
        refused(empty, TwoHeads.NO, "says", 0, 0, 0);
        refused(empty, BAD, "felled", 0, 0);
        refused(empty, BAD, "known", 0, 0);
        refused(empty, BAD, "crossed", 0, 1);
        refused(empty, BAD, "pay", 0, 0, 1, 0);
        refused(empty, TwoHeads.NO, "owed", 0, 0);
        refused(empty, BAD, "clash", 0, 1);
        refused(empty, -1000, "worth", 0, 0, 0);
        refused(empty, BAD, "against", 0, 1);
        refused(empty, -11, "cell", 0, 0, 0);
        refused(empty, -11, "copy", 0, 0, 1, 0, 0);
        refused(empty, -11, "seatsRow", 0, 0, 0, 0);
        refused(empty, -11, "taken", 0, 0);
        refused(empty, NONE, "bought", 0);
        refused(empty, NONE, "bought", 1);
        refused(empty, NONE, "council", 0, 999, 1, 0);
        refused(empty, NONE, "byRight", 0, 0, 0);
        refused(empty, NONE, "journey", 0, 0, 0);
    }

    private static void full() {
        Consumer<TwoHeads> most = RefusalsTest::allFull;
        refused(most, FULL, "person", 0);
        refused(most, FULL, "turn", 0, 0, 0);
        refused(most, FULL, "act", 0, 0, 0, 0, 0);
        refused(most, FULL, "act", 1, 0, 71, 0, 0);
        refused(most, FULL, "feed", 1, 32);
        refused(most, FULL, "feed", 8, -1);
        refused(most, FULL, "text");
        refused(most, FULL, "pay", 0, 0, 1, 0);
        refused(most, FULL, "elector", 0, 0);
        refused(most, FULL, "clause", 0);
        refused(x -> Check.feed(x, " ".repeat(153)), FULL, "feed", 8, 32);
    }

    /** Of two refusals the one that the call's words name first. */
    private static void first() {
        Consumer<TwoHeads> most = RefusalsTest::allFull;
        refused(most, BAD, "person", 8);
        refused(most, BAD, "turn", 8, 0, 0);
        refused(most, BAD, "turn", 0, 10000, 0);
        refused(most, BAD, "turn", 0, 0, 2);
        refused(most, BAD, "act", 6, 0, 0, 0, 0);
        refused(most, BAD, "act", 0, 12, 0, 0, 0);
        refused(most, BAD, "act", 0, 0, 100, 0, 0);
        refused(most, BAD, "act", 1, 0, 72, 0, 0);
        refused(most, BAD, "act", 0, 0, 0, 10000, 0);
        refused(most, BAD, "act", 0, 0, 0, 0, 2);
        refused(most, BAD, "feed", 0, 0);
        refused(most, BAD, "feed", 9, 0);
        refused(most, BAD, "pay", 6, 0, 1, 0);
        refused(most, BAD, "pay", 0, 12, 1, 0);
        refused(most, BAD, "pay", 0, 0, 0, 0);
        refused(most, BAD, "pay", 0, 0, 1, -1);
        refused(most, BAD, "elector", 1000, 0);
        refused(most, BAD, "elector", 0, 2);
        refused(most, BAD, "clause", -1);
        refused(most, BAD, "lift", 4, 43);
        refused(most, BAD, "lift", 0, 10000);
        refused(most, STATE, "lift", 4, 44);
        refused(most, BAD, "journey", 0, 256, 99);
        refused(most, BAD, "byRight", 3, 0, 0);
        refused(most, BAD, "known", 24, 0);
    }

    private static void firstOfTheHost() {
        Consumer<TwoHeads> some = RefusalsTest::ordinary;
        refused(some, BAD, "sheet", 4, 0, -1);
        refused(some, BAD, "sheet", 0, 3, -1);
        refused(some, BAD, "sheet", 0, 3, 41);
        refused(some, BAD, "cell", 4, -1, 0);
        refused(some, -11, "cell", 3, -1, 0);
        refused(some, BAD, "copy", 4, -1, 3, 0, 0);
        refused(some, BAD, "copy", 3, -1, 4, 0, 0);
        refused(some, -11, "copy", 3, -1, 0, 0, -1);
        refused(some, -11, "copy", 0, -1, 3, 0, -1);
        refused(some, -13, "copy", 0, -1, 1, 0, 1);
        refused(some, -13, "copy", 0, 0, 1, 0, -1);
        refused(some, -13, "copy", 0, 0, 1, 0, 0);
        refused(some, BAD, "seatsRow", 4, 0, 0, 0);
        refused(some, BAD, "seatsRow", 3, 0, 0, 9);
        refused(some, BAD, "seatsRow", 0, 3, -1, 1);
        refused(some, -13, "seatsRow", 0, 1, -1, 1);
        refused(some, -13, "seatsRow", 0, 1, 0, 0);
        refused(some, -11, "seatsRow", 3, 1, -1, 1);
        refused(some, BAD, "taken", 6, 6);
        refused(some, BAD, "taken", -1, -1);
        refused(some, -11, "taken", 6, 5);
    }
}
