import java.util.Arrays;

/** A church with two heads; ../shared/DOC.md says what each call answers. */
public final class TwoHeads {
    public static final int NONE = -1, BAD = -2, STATE = -3, FULL = -4;
    public static final long NO = -4611686018427387904L;

    private static final int NOTHING = -11, OUTSIDE = -12, OTHER_SORT = -13, SIZE_BELOW_ZERO = -14;
    private static final int NO_SUCH_SEAT = -5, NO_SUCH_WORTH = -1000, FAULT = -100;

    private static final int LANDS = 8, OFFICES = 6, SIDES = 3, PERSONS = 12, ACTS = 24;
    private static final int TURNS = 30, PAYMENTS = 30, TEXTS = 6, ELECTORS = 10, CLAUSES = 8;
    private static final int TAPE = 160, SHEETS = 4, SHEET = 40, ENVOYED = 7;
    private static final int LAST_DAY = 9999, LAST_ROAD = 99, NO_WAY = 999, STAY = 3;

    private static final int NAMING = 1, BAN = 4, KINDS = 6;
    private static final int[] KIND_ABOVE = {-1, 0, 0, 0, 2, 3};
    private static final int[] RANK_OF_KIND = {1, 3, 2, 1, 4, 5};
    private static final int[] KIND_LASTS = {9999, 9999, 1000, 300, 1000, 900};

    // The parts of a TEXT.
    private static final int BINDING = 0, SAVING = 1;

    // In a formula's code a number stands for itself, all else is below 0.
    private static final int NAMES = 6;
    private static final int KIND_NAME = -1, DAY_NAME = -2, RANK_NAME = -3;
    private static final int SAME_NAME = -4, HANGS_NAME = -5, FAITH_NAME = -6;
    private static final int DENY = -7, NEGATE = -8;
    private static final int EITHER = -9, BOTH = -10, LESS = -11, EQUAL = -12;
    private static final int PLUS = -13, MINUS = -14, TIMES = -15;

    // Deepest are five brackets: each level, and the outermost, keeps five left operands waiting.
    private static final int MOST_OPEN = 5, STACK = 40;

    private final Lands lands;
    private final People people;
    private final Deeds deeds;
    private final Court court;
    private final Rents rents;
    private final Reader reader;
    private final Electors electors;
    private final Clauses clauses;
    private final Envoys envoys;
    private final Sheet[] sheets;

    public TwoHeads() {
        lands = new Lands();
        people = new People();
        deeds = new Deeds();
        court = new Court(lands, people, deeds);
        rents = new Rents();
        reader = new Reader();
        electors = new Electors();
        clauses = new Clauses();
        envoys = new Envoys(lands);
        sheets = new Sheet[SHEETS];
        for (int i = 0; i < SHEETS; i++) {
            sheets[i] = new Sheet();
        }
    }

    public int road(int a, int b, int days) {
        if (!isLand(a) || !isLand(b) || a == b) return BAD;
        if (days != NO_WAY && !isWithin(days, 1, LAST_ROAD)) return BAD;
        int before = lands.roads[a][b];
        lands.lay(a, b, days);
        return before;
    }

    public int far(int a, int b) {
        return isLand(a) && isLand(b) ? lands.ways[a][b] : BAD;
    }

    public int person(int land) {
        if (!isLand(land)) return BAD;
        if (people.size >= PERSONS) return FULL;
        people.land[people.size] = land;
        return people.size++;
    }

    public int office(int office, int land) {
        if (!isOffice(office) || !isLand(land)) return BAD;
        int before = people.officeLand[office];
        people.officeLand[office] = land;
        return before;
    }

    public int seat(int office, int person) {
        if (!isOffice(office) || person != NONE && !isPerson(person)) return NO_SUCH_SEAT;
        int before = people.sitter[office];
        people.sitter[office] = person;
        return before;
    }

    public int officeTold(int office, int what) {
        if (!isOffice(office) || !isWithin(what, 0, 1)) return BAD;
        return what == 0 ? people.officeLand[office] : people.sitter[office];
    }

    public int turn(int land, int from, int side) {
        if (!isLand(land) || !isDay(from) || !isWithin(side, 0, 1)) return BAD;
        return lands.turns >= TURNS ? FULL : lands.addTurn(land, from, side);
    }

    public int side(int land, int day) {
        return isLand(land) && isDay(day) ? lands.sideOn(land, day) : BAD;
    }

    public int changed(int land, int from, int side) {
        if (!isLand(land) || !isDay(from) || !isWithin(side, 0, 1)) return BAD;
        return court.changedBy(land, from, side);
    }

    // ---- acts

    public int act(int kind, int by, int on, int day, int faith) {
        if (!isWithin(kind, 0, KINDS - 1) || !isPerson(by)) return BAD;
        if (!isWithin(on, 0, kind == NAMING ? OFFICES * PERSONS - 1 : 99)) return BAD;
        if (!isDay(day) || !isWithin(faith, 0, 1)) return BAD;
        if (kind == NAMING && !isPerson(on % PERSONS)) return BAD;
        return deeds.size >= ACTS ? FULL : deeds.add(kind, by, on, day, faith);
    }

    public int hang(int act, int other) {
        if (!isAct(act) || !isAct(other) || act == other) return BAD;
        if (has(deeds.hangsOn[act], other)) return STATE;
        deeds.hangsOn[act] |= 1 << other;
        return Integer.bitCount(deeds.hangsOn[act]);
    }

    public int lift(int act, int day) {
        if (!isAct(act) || !isDay(day) || day < deeds.day[act]) return BAD;
        if (deeds.kind[act] != BAN) return OTHER_SORT;
        if (deeds.lifted[act] != NONE) return STATE;
        deeds.lifted[act] = day;
        return deeds.lastsFor(act);
    }

    public int actTold(int act, int what) {
        return isAct(act) && isWithin(what, 0, 7) ? deeds.tell(act, what) : BAD;
    }

    public int feed(int n, long bytes) {
        if (!isWithin(n, 1, 8)) return BAD;
        if (reader.size + n > TAPE) return FULL;
        reader.append(n, bytes);
        return reader.size;
    }

    public int text() {
        if (court.texts >= TEXTS) return FULL;
        int fault = reader.readTape();
        return fault == NONE ? court.addText(reader.binds, reader.saved) : FAULT - fault;
    }

    public int rule(int side, int text) {
        if (!isSide(side) || !isWithin(text, 0, court.texts - 1)) return BAD;
        int before = court.textOf[side];
        court.textOf[side] = text;
        return before;
    }

    public long says(int side, int act, int part) {
        if (!isSide(side) || !isAct(act) || !isWithin(part, BINDING, SAVING)) return NO;
        return court.valueOf(side, act, part);
    }

    public int acts(int side, int what) {
        if (!isSide(side) || !isWithin(what, 0, 3)) return BAD;
        int sound = court.trueUnder(side, BINDING);
        if (what == 0) return sound;
        int saved = court.trueUnder(side, SAVING);
        int good = court.goodAmong(sound, saved);
        if (what == 1) return good;
        int firm = court.firmAmong(sound, saved);
        return what == 2 ? firm : good & ~firm;
    }

    public int felled(int side, int act) {
        if (!isSide(side) || !isAct(act)) return BAD;
        int sound = court.trueUnder(side, BINDING);
        int saved = court.trueUnder(side, SAVING);
        return court.goodAmong(sound, saved) & ~court.goodAmong(sound & ~(1 << act), saved);
    }

    public int inForce(int side, int day) {
        if (!isSide(side) || !isDay(day)) return BAD;
        return court.forceOn(court.goodUnder(side), day);
    }

    public int byRight(int side, int office, int day) {
        if (!isSide(side) || !isOffice(office) || !isDay(day)) return BAD;
        return court.rightful(court.goodUnder(side), office, day);
    }

    public int quarrels(int day) {
        if (!isDay(day)) return BAD;
        int good0 = court.goodUnder(0);
        int good1 = court.goodUnder(1);
        int set = 0;
        for (int office = 0; office < OFFICES; office++) {
            boolean alike = court.rightful(good0, office, day) == court.rightful(good1, office, day);
            set |= alike ? 0 : 1 << office;
        }
        return set;
    }

    public int known(int act, int land) {
        return isAct(act) && isLand(land) ? court.knownFrom(act, land) : BAD;
    }

    public int crossed(int a, int b) {
        if (!isAct(a) || !isAct(b) || a == b) return BAD;
        return court.knewOf(a, b) || court.knewOf(b, a) ? 0 : 1;
    }

    // ---- payments

    public int pay(int office, int person, int coins, int day) {
        if (!isOffice(office) || !isPerson(person)) return BAD;
        if (!isWithin(coins, 1, 9999) || !isDay(day)) return BAD;
        return rents.size >= PAYMENTS ? FULL : rents.add(office, person, coins, day);
    }

    public long owed(int side, int person) {
        if (!isSide(side) || person != NONE && !isPerson(person)) return NO;
        return rents.owedAgain(court, court.goodUnder(side), person);
    }

    // ---- electors, the council

    public int elector(int price, int ours) {
        if (!isWithin(price, 0, 999) || !isWithin(ours, 0, 1)) return BAD;
        return electors.size >= ELECTORS ? FULL : electors.add(price, ours);
    }

    public int clash(int a, int b) {
        if (!isWithin(a, 0, electors.size - 1) || !isWithin(b, 0, electors.size - 1)) return BAD;
        return a == b ? BAD : setApart(electors.clashes, a, b);
    }

    public int bought(int what) {
        if (!isWithin(what, 0, 1)) return BAD;
        int set = electors.cheapest();
        return set == NONE || what == 0 ? set : sumOver(electors.price, set);
    }

    public int seats(int land, int n) {
        if (!isLand(land) || !isWithin(n, 0, 99)) return BAD;
        int before = lands.seats[land];
        lands.seats[land] = n;
        return before;
    }

    public int council(int land, int days, int wanted, int day) {
        if (!isLand(land) || !isWithin(days, 0, 999)) return BAD;
        if (!isWithin(wanted, 1, 999) || !isDay(day)) return BAD;
        return lands.call(lands.within(land, days), lands.holdingToOne(day), wanted);
    }

    // ---- a settling

    public int clause(int undoes) {
        if (!isWithin(undoes, 0, (1 << ACTS) - 1)) return BAD;
        return clauses.size >= CLAUSES ? FULL : clauses.add(undoes);
    }

    public int worth(int clause, int land, int n) {
        if (!isClause(clause) || !isLand(land) || !isWithin(n, -99, 99)) return NO_SUCH_WORTH;
        int before = clauses.worth[land][clause];
        clauses.worth[land][clause] = n;
        return before;
    }

    public int against(int a, int b) {
        if (!isClause(a) || !isClause(b) || a == b) return BAD;
        return setApart(clauses.foes, a, b);
    }

    public int settling(int n, int what) {
        if (!isWithin(n, 0, LANDS) || !isWithin(what, 0, 2)) return BAD;
        int good = court.goodUnder(2);
        int set = clauses.settled(n, good);
        if (what == 0) return set;
        return what == 1 ? clauses.undoneBy(set, good) : clauses.takersOf(set);
    }

    // ---- envoys

    public int bound(int land, int day) {
        if (!isLand(land) || !isWithin(day, 0, 999)) return BAD;
        int before = lands.bounds[land];
        lands.bounds[land] = day;
        return before;
    }

    public int journey(int land, int others, int i) {
        if (!isLand(land) || !isWithin(others, 0, (1 << LANDS) - 1)) return BAD;
        envoys.plan(land, others & ~(1 << land));
        if (i == -1) return envoys.mostWon;
        return isWithin(i, 0, envoys.size - 1) ? envoys.best[i] : NONE;
    }

    public int count(int what) {
        switch (what) {
            case 0: return people.size;
            case 1: return deeds.size;
            case 2: return lands.turns;
            case 3: return rents.size;
            case 4: return electors.size;
            case 5: return clauses.size;
            case 6: return court.texts;
            case 7: return reader.size;
            case 8: return court.textOf[0];
            case 9: return court.textOf[1];
            case 10: return court.textOf[2];
            default: return BAD;
        }
    }

    // ---- the host

    public int sheet(int sheet, int sort, int n) {
        if (!isSheet(sheet) || !isWithin(sort, -1, 2)) return BAD;
        if (sort == -1) {
            sheets[sheet].become(-1, 0);
            return 1;
        }
        if (n > SHEET) return BAD;
        if (n < 0) return SIZE_BELOW_ZERO;
        sheets[sheet].become(sort, n);
        return 1;
    }

    public int cell(int sheet, int i, int v) {
        if (!isSheet(sheet)) return BAD;
        Sheet row = sheets[sheet];
        if (row.isMissing()) return NOTHING;
        if (!isWithin(i, 0, row.size - 1)) return OUTSIDE;
        row.put(i, v);
        return 1;
    }

    public int copy(int sheet, int i, int other, int j, int n) {
        if (!isSheet(sheet) || !isSheet(other)) return BAD;
        Sheet source = sheets[sheet];
        Sheet target = sheets[other];
        if (source.isMissing() || target.isMissing()) return NOTHING;
        if (source.sort != target.sort) return OTHER_SORT;
        if (!source.holds(i, n) || !target.holds(j, n)) return OUTSIDE;
        System.arraycopy(source.items, i, target.items, j, n);
        return n;
    }

    public int seatsRow(int sheet, int sort, int from, int n) {
        if (!isSheet(sheet) || !isWithin(sort, 0, 2) || !isWithin(n, 0, LANDS)) return BAD;
        Sheet row = sheets[sheet];
        // A missing SHEET is of no sort, so it can't be of another one.
        if (row.isMissing()) return NOTHING;
        if (row.sort != sort) return OTHER_SORT;
        int told = 0;
        for (int land = 0; land < n; land++) {
            if (!row.holds(from, land + 1)) return OUTSIDE;
            int seats = row.items[from + land];
            if (isWithin(seats, 0, 99)) {
                lands.seats[land] = seats;
                told++;
            }
        }
        return told;
    }

    public int taken(int act, int k) {
        if (!isWithin(k, 0, KINDS - 1)) return BAD;
        if (!isAct(act)) return NOTHING;
        int kind = deeds.kind[act];
        return isUnder(kind, k) ? RANK_OF_KIND[kind] : OTHER_SORT;
    }

    private static boolean isWithin(int n, int least, int most) {
        return n >= least && n <= most;
    }

    private static boolean isLand(int land) {
        return isWithin(land, 0, LANDS - 1);
    }

    private static boolean isDay(int day) {
        return isWithin(day, 0, LAST_DAY);
    }

    private static boolean isSide(int side) {
        return isWithin(side, 0, SIDES - 1);
    }

    private static boolean isOffice(int office) {
        return isWithin(office, 0, OFFICES - 1);
    }

    private static boolean isSheet(int sheet) {
        return isWithin(sheet, 0, SHEETS - 1);
    }

    private boolean isPerson(int person) {
        return isWithin(person, 0, people.size - 1);
    }

    private boolean isAct(int act) {
        return isWithin(act, 0, deeds.size - 1);
    }

    private boolean isClause(int clause) {
        return isWithin(clause, 0, clauses.size - 1);
    }

    private static boolean isUnder(int kind, int above) {
        int k = kind;
        for (int step = 0; step < KINDS && k != above && k >= 0; step++) {
            k = KIND_ABOVE[k];
        }
        return k == above;
    }

    private static boolean has(int set, int i) {
        return (set >> i & 1) != 0;
    }

    private static int sumOver(int[] row, int set) {
        int sum = 0;
        for (int i = 0; i < row.length; i++) {
            sum += has(set, i) ? row[i] : 0;
        }
        return sum;
    }

    private static boolean goTogether(int[] foes, int set) {
        for (int i = 0; i < foes.length; i++) {
            if (has(set, i) && (foes[i] & set) != 0) return false;
        }
        return true;
    }

    private static int setApart(int[] foes, int a, int b) {
        if (has(foes[a], b)) return 0;
        foes[a] |= 1 << b;
        foes[b] |= 1 << a;
        return 1;
    }

    /** The LANDS: ROADS and ways, TURNS, SEATS, BOUNDS. */
    private static final class Lands {
        final int[][] roads = new int[LANDS][LANDS];
        final int[][] ways = new int[LANDS][LANDS];
        final int[] turnLand = new int[TURNS];
        final int[] turnFrom = new int[TURNS];
        final int[] turnSide = new int[TURNS];
        int turns;
        final int[] seats = new int[LANDS];
        final int[] bounds = new int[LANDS];

        Lands() {
            for (int a = 0; a < LANDS; a++) {
                Arrays.fill(roads[a], NO_WAY);
            }
            measure();
        }

        void lay(int a, int b, int days) {
            roads[a][b] = days;
            roads[b][a] = days;
            measure();
        }

        // NO_WAY is above every true way (7 ROADS of 99), so it never shortens one.
        private void measure() {
            for (int a = 0; a < LANDS; a++) {
                System.arraycopy(roads[a], 0, ways[a], 0, LANDS);
                ways[a][a] = 0;
            }
            for (int over = 0; over < LANDS; over++) {
                for (int a = 0; a < LANDS; a++) {
                    for (int b = 0; b < LANDS; b++) {
                        ways[a][b] = Math.min(ways[a][b], ways[a][over] + ways[over][b]);
                    }
                }
            }
        }

        int addTurn(int land, int from, int side) {
            turnLand[turns] = land;
            turnFrom[turns] = from;
            turnSide[turns] = side;
            return turns++;
        }

        private int turnOn(int land, int day) {
            int latest = NONE;
            for (int t = 0; t < turns; t++) {
                boolean begun = turnLand[t] == land && turnFrom[t] <= day;
                if (begun && (latest == NONE || turnFrom[t] >= turnFrom[latest])) latest = t;
            }
            return latest;
        }

        int sideOn(int land, int day) {
            int turn = turnOn(land, day);
            return turn == NONE ? 0 : turnSide[turn];
        }

        int sideIfTurned(int land, int day, int from, int side) {
            int turn = turnOn(land, day);
            if (from <= day && (turn == NONE || from >= turnFrom[turn])) return side;
            return turn == NONE ? 0 : turnSide[turn];
        }

        // 999 DAYS are a time like another, but a FAR of 999 says that there is no way.
        int within(int land, int days) {
            int set = 0;
            for (int other = 0; other < LANDS; other++) {
                int way = ways[other][land];
                set |= way != NO_WAY && way <= days ? 1 << other : 0;
            }
            return set;
        }

        int holdingToOne(int day) {
            int set = 0;
            for (int land = 0; land < LANDS; land++) {
                set |= sideOn(land, day) << land;
            }
            return set;
        }

        // Sets come in the order of their bits, so of like ones the first is the least.
        int call(int coming, int holdingToOne, int wanted) {
            int best = NONE;
            int fewest = LANDS + 1;
            int most = 0;
            for (int set = 1; set < 1 << LANDS; set++) {
                int size = Integer.bitCount(set);
                if ((set & ~coming) != 0 || size > fewest) continue;
                int all = sumOver(seats, set);
                int ones = sumOver(seats, set & holdingToOne);
                boolean whole = all >= wanted && Math.min(ones, all - ones) >= wanted / 3;
                if (whole && (size < fewest || all > most)) {
                    best = set;
                    fewest = size;
                    most = all;
                }
            }
            return best;
        }
    }

    /** PERSONS with their LANDS, and OFFICES with who sits there in fact. */
    private static final class People {
        final int[] land = new int[PERSONS];
        int size;
        final int[] officeLand = new int[OFFICES];
        final int[] sitter = new int[OFFICES];

        People() {
            Arrays.fill(sitter, NONE);
        }
    }

    /** The ACTS as they were told. */
    private static final class Deeds {
        final int[] kind = new int[ACTS];
        final int[] by = new int[ACTS];
        final int[] on = new int[ACTS];
        final int[] day = new int[ACTS];
        final int[] faith = new int[ACTS];
        final int[] hangsOn = new int[ACTS];
        final int[] lifted = new int[ACTS];
        int size;

        Deeds() {
            Arrays.fill(lifted, NONE);
        }

        int add(int newKind, int newBy, int newOn, int newDay, int newFaith) {
            kind[size] = newKind;
            by[size] = newBy;
            on[size] = newOn;
            day[size] = newDay;
            faith[size] = newFaith;
            return size++;
        }

        int rankOf(int act) {
            return RANK_OF_KIND[kind[act]];
        }

        int lastsFor(int act) {
            return lifted[act] == NONE ? KIND_LASTS[kind[act]] : lifted[act] - day[act];
        }

        boolean runsOn(int act, int when) {
            return day[act] <= when && when < day[act] + lastsFor(act);
        }

        int tell(int act, int what) {
            switch (what) {
                case 0: return kind[act];
                case 1: return by[act];
                case 2: return on[act];
                case 3: return day[act];
                case 4: return faith[act];
                case 5: return rankOf(act);
                case 6: return lastsFor(act);
                case 7: return hangsOn[act];
                default: return BAD;
            }
        }
    }

    /** One E of a TEXT, as code for a stack: operands first, then what joins them. */
    private static final class Formula {
        final int[] code;

        Formula(int[] code) {
            this.code = code;
        }

        int valueFor(int[] facts, int[] stack) {
            int top = 0;
            for (int i = 0; i < code.length; i++) {
                int sign = code[i];
                if (sign >= FAITH_NAME) {
                    if (top >= stack.length) return 0;
                    stack[top++] = sign >= 0 ? sign : facts[KIND_NAME - sign];
                } else if (sign >= NEGATE) {
                    if (top < 1) return 0;
                    int value = stack[top - 1];
                    stack[top - 1] = sign == NEGATE ? -value : value == 0 ? 1 : 0;
                } else {
                    if (top < 2) return 0;
                    top--;
                    stack[top - 1] = joined(sign, stack[top - 1], stack[top]);
                }
            }
            return top == 1 ? stack[0] : 0;
        }

        private static int joined(int sign, int left, int right) {
            switch (sign) {
                case EITHER: return left != 0 || right != 0 ? 1 : 0;
                case BOTH: return left != 0 && right != 0 ? 1 : 0;
                case LESS: return left < right ? 1 : 0;
                case EQUAL: return left == right ? 1 : 0;
                case PLUS: return left + right;
                case MINUS: return left - right;
                case TIMES: return left * right;
                default: return 0;
            }
        }
    }

    /** THE TAPE, and the reading of a TEXT from it: first its TOKENS, then a method for each part of speech. */
    private static final class Reader {
        // SIGNS are tokens by their own byte; these stay below all of them.
        private static final int END = 0, WRONG = 1, NUMBER = 2, NAME = 3;
        private static final int BINDS = 4, SAVED = 5, OR = 6, AND = 7, NOT = 8;

        private final byte[] tape = new byte[TAPE];
        int size;
        Formula binds;
        Formula saved;
        private int at;
        // One place more than THE TAPE has bytes: for the END.
        private final int[] tokens = new int[TAPE + 1];
        private final int[] places = new int[TAPE + 1];
        private final int[] values = new int[TAPE + 1];
        private int current;
        private int token;
        private int fault;
        private final int[] code = new int[TAPE];
        private int codeSize;

        void append(int n, long bytes) {
            for (int i = 0; i < n && size < TAPE; i++) {
                tape[size++] = (byte) (bytes >> 8 * i);
            }
        }

        /** The place of the FAULT, or NONE, and then binds and saved are what was read. */
        int readTape() {
            findTokens();
            size = 0;
            fault = NONE;
            current = 0;
            token = tokens[0];
            binds = readPart(BINDS);
            saved = readPart(SAVED);
            if (token != END) fail();
            return fault;
        }

        // A WRONG token is a FAULT wherever it stands, so what comes behind it does not matter.
        private void findTokens() {
            at = 0;
            for (int i = 0; i <= TAPE; i++) {
                skipBlanks();
                places[i] = at;
                tokens[i] = findToken(i);
                if (tokens[i] == END || tokens[i] == WRONG) return;
            }
        }

        private void skipBlanks() {
            while (at < size && (tape[at] == ' ' || tape[at] == '\n')) {
                at++;
            }
        }

        private int findToken(int i) {
            if (at >= size) return END;
            if (isLetter(tape[at])) return findWord(i);
            if (isDigit(tape[at])) return findNumber(i);
            byte sign = tape[at++];
            return isSign(sign) ? sign : WRONG;
        }

        private int findNumber(int i) {
            int value = 0;
            while (at < size && isDigit(tape[at])) {
                value = value * 10 + (tape[at] - '0');
                at++;
            }
            values[i] = value;
            return at - places[i] <= 4 ? NUMBER : WRONG;
        }

        private int findWord(int i) {
            while (at < size && isLetter(tape[at])) {
                at++;
            }
            values[i] = nameFrom(places[i]);
            return values[i] < 0 ? NAME : keyFrom(places[i]);
        }

        private int nameFrom(int from) {
            if (spells(from, "kind")) return KIND_NAME;
            if (spells(from, "day")) return DAY_NAME;
            if (spells(from, "rank")) return RANK_NAME;
            if (spells(from, "same")) return SAME_NAME;
            if (spells(from, "hangs")) return HANGS_NAME;
            if (spells(from, "faith")) return FAITH_NAME;
            return 0;
        }

        private int keyFrom(int from) {
            if (spells(from, "binds")) return BINDS;
            if (spells(from, "saved")) return SAVED;
            if (spells(from, "or")) return OR;
            if (spells(from, "and")) return AND;
            if (spells(from, "not")) return NOT;
            return WRONG;
        }

        private boolean spells(int from, String word) {
            if (at - from != word.length()) return false;
            for (int i = 0; i < word.length(); i++) {
                if (tape[from + i] != word.charAt(i)) return false;
            }
            return true;
        }

        private static boolean isLetter(byte b) {
            return b >= 'a' && b <= 'z';
        }

        private static boolean isDigit(byte b) {
            return b >= '0' && b <= '9';
        }

        private static boolean isSign(byte b) {
            return b == '(' || b == ')' || b == ';' || b == '+' || b == '-'
                    || b == '*' || b == '<' || b == '=';
        }

        private Formula readPart(int key) {
            codeSize = 0;
            expect(key);
            readEither(0);
            expect(';');
            return fault == NONE ? new Formula(Arrays.copyOf(code, codeSize)) : null;
        }

        // The methods below carry how many brackets, nots and minus signs are open.

        private void readEither(int open) {
            readBoth(open);
            for (int i = 0; i < TAPE && token == OR; i++) {
                advance();
                readBoth(open);
                write(EITHER);
            }
        }

        private void readBoth(int open) {
            readNot(open);
            for (int i = 0; i < TAPE && token == AND; i++) {
                advance();
                readNot(open);
                write(BOTH);
            }
        }

        private void readNot(int open) {
            if (token == NOT) {
                if (mayOpen(open)) {
                    readNot(open + 1);
                    write(DENY);
                }
                return;
            }
            readSum(open);
            if (token == '<' || token == '=') {
                int sign = token == '<' ? LESS : EQUAL;
                advance();
                readSum(open);
                write(sign);
            }
        }

        private void readSum(int open) {
            readTerm(open);
            for (int i = 0; i < TAPE && (token == '+' || token == '-'); i++) {
                int sign = token == '+' ? PLUS : MINUS;
                advance();
                readTerm(open);
                write(sign);
            }
        }

        private void readTerm(int open) {
            readOne(open);
            for (int i = 0; i < TAPE && token == '*'; i++) {
                advance();
                readOne(open);
                write(TIMES);
            }
        }

        private void readOne(int open) {
            if (token == NUMBER || token == NAME) {
                write(values[current]);
                advance();
            } else if (token == '-') {
                if (mayOpen(open)) {
                    readOne(open + 1);
                    write(NEGATE);
                }
            } else if (token == '(') {
                if (mayOpen(open)) {
                    readEither(open + 1);
                    expect(')');
                }
            } else {
                fail();
            }
        }

        /** Goes on behind what opens, or fails at it if too much is open. */
        private boolean mayOpen(int open) {
            if (open >= MOST_OPEN) {
                fail();
                return false;
            }
            advance();
            return true;
        }

        private void expect(int wanted) {
            if (token == wanted) {
                advance();
            } else {
                fail();
            }
        }

        private void advance() {
            if (current < TAPE) current++;
            token = tokens[current];
        }

        // Behind a FAULT the token stays WRONG, which nothing takes: so the reading ends.
        private void fail() {
            if (fault == NONE) fault = places[current];
            token = WRONG;
        }

        private void write(int sign) {
            if (codeSize < TAPE) code[codeSize++] = sign;
        }
    }

    /** What ACTS are under the TEXT of a SIDE. Sets of ACTS are bits. */
    private static final class Court {
        private final Lands lands;
        private final People people;
        private final Deeds deeds;
        private final Formula[] binds = new Formula[TEXTS];
        private final Formula[] saved = new Formula[TEXTS];
        int texts;
        final int[] textOf = new int[SIDES];
        private final int[] facts = new int[NAMES];
        private final int[] stack = new int[STACK];

        Court(Lands lands, People people, Deeds deeds) {
            this.lands = lands;
            this.people = people;
            this.deeds = deeds;
            addText(new Formula(new int[] {SAME_NAME}), new Formula(new int[] {FAITH_NAME}));
        }

        int addText(Formula newBinds, Formula newSaved) {
            binds[texts] = newBinds;
            saved[texts] = newSaved;
            return texts++;
        }

        private int landOf(int act) {
            return people.land[deeds.by[act]];
        }

        int valueOf(int side, int act, int part) {
            int held = lands.sideOn(landOf(act), deeds.day[act]);
            return valueIfHeld(side, act, part, held);
        }

        private int valueIfHeld(int side, int act, int part, int held) {
            facts[KIND_NAME - KIND_NAME] = deeds.kind[act];
            facts[KIND_NAME - DAY_NAME] = deeds.day[act];
            facts[KIND_NAME - RANK_NAME] = deeds.rankOf(act);
            facts[KIND_NAME - SAME_NAME] = side == 2 || side == held ? 1 : 0;
            facts[KIND_NAME - HANGS_NAME] = Integer.bitCount(deeds.hangsOn[act]);
            facts[KIND_NAME - FAITH_NAME] = deeds.faith[act];
            Formula formula = part == BINDING ? binds[textOf[side]] : saved[textOf[side]];
            return formula == null ? 0 : formula.valueFor(facts, stack);
        }

        int trueUnder(int side, int part) {
            int set = 0;
            for (int act = 0; act < deeds.size; act++) {
                set |= valueOf(side, act, part) != 0 ? 1 << act : 0;
            }
            return set;
        }

        int goodUnder(int side) {
            return goodAmong(trueUnder(side, BINDING), trueUnder(side, SAVING));
        }

        // A round that is not the last takes one away (or adds one) at least: ACTS rounds are enough.
        int goodAmong(int sound, int savedOnes) {
            int good = sound;
            for (int round = 0; round < ACTS; round++) {
                int kept = good & (savedOnes | hangingWithin(good));
                if (kept == good) break;
                good = kept;
            }
            return good;
        }

        int firmAmong(int sound, int savedOnes) {
            int firm = 0;
            for (int round = 0; round < ACTS; round++) {
                int grown = sound & (savedOnes | hangingWithin(firm));
                if (grown == firm) break;
                firm = grown;
            }
            return firm;
        }

        private int hangingWithin(int set) {
            int within = 0;
            for (int act = 0; act < deeds.size; act++) {
                within |= (deeds.hangsOn[act] & ~set) == 0 ? 1 << act : 0;
            }
            return within;
        }

        int forceOn(int good, int day) {
            int set = 0;
            for (int act = 0; act < deeds.size; act++) {
                boolean plain = has(good, act) && deeds.kind[act] != NAMING;
                set |= plain && deeds.runsOn(act, day) ? 1 << act : 0;
            }
            for (int office = 0; office < OFFICES; office++) {
                int naming = namingOn(good, office, day);
                set |= naming != NONE ? 1 << naming : 0;
            }
            return set;
        }

        int rightful(int good, int office, int day) {
            int naming = namingOn(good, office, day);
            return naming == NONE ? NONE : deeds.on[naming] % PERSONS;
        }

        // An older NAMING does not come back when the latest one has run out.
        private int namingOn(int good, int office, int day) {
            int latest = NONE;
            for (int act = 0; act < deeds.size; act++) {
                boolean names = deeds.kind[act] == NAMING && deeds.on[act] / PERSONS == office;
                boolean begun = names && has(good, act) && deeds.day[act] <= day;
                if (begun && (latest == NONE || deeds.day[act] >= deeds.day[latest])) latest = act;
            }
            return latest != NONE && deeds.runsOn(latest, day) ? latest : NONE;
        }

        int knownFrom(int act, int land) {
            int way = lands.ways[landOf(act)][land];
            return way == NO_WAY ? NONE : deeds.day[act] + way;
        }

        /** Whether who did the one ACT knew on that DAY of the other one. */
        boolean knewOf(int act, int other) {
            int from = knownFrom(other, landOf(act));
            return from != NONE && from <= deeds.day[act];
        }

        int changedBy(int land, int from, int side) {
            int set = 0;
            for (int act = 0; act < deeds.size; act++) {
                if (landOf(act) != land) continue;
                int now = lands.sideOn(land, deeds.day[act]);
                int then = lands.sideIfTurned(land, deeds.day[act], from, side);
                set |= now != then && tellsApart(act, now, then) ? 1 << act : 0;
            }
            return set;
        }

        private boolean tellsApart(int act, int now, int then) {
            for (int side = 0; side < 2; side++) {
                boolean is = valueIfHeld(side, act, BINDING, now) != 0;
                boolean wouldBe = valueIfHeld(side, act, BINDING, then) != 0;
                if (is != wouldBe) return true;
            }
            return false;
        }
    }

    /** The PAYMENTS. */
    private static final class Rents {
        private final int[] office = new int[PAYMENTS];
        private final int[] person = new int[PAYMENTS];
        private final int[] coins = new int[PAYMENTS];
        private final int[] day = new int[PAYMENTS];
        int size;

        int add(int newOffice, int newPerson, int newCoins, int newDay) {
            office[size] = newOffice;
            person[size] = newPerson;
            coins[size] = newCoins;
            day[size] = newDay;
            return size++;
        }

        /** What is OWED to one, or to NONE in particular: all. */
        long owedAgain(Court court, int good, int to) {
            long sum = 0;
            for (int i = 0; i < size; i++) {
                int rightful = court.rightful(good, office[i], day[i]);
                boolean wrong = rightful != NONE && rightful != person[i];
                if (wrong && (to == NONE || to == rightful)) sum += coins[i];
            }
            return sum;
        }
    }

    /** The ELECTORS, and who of them is BOUGHT. */
    private static final class Electors {
        final int[] price = new int[ELECTORS];
        final int[] clashes = new int[ELECTORS];
        private int ours;
        int size;

        int add(int newPrice, int isOurs) {
            price[size] = newPrice;
            ours |= isOurs << size;
            return size++;
        }

        // Sets come in the order of their bits, so of like ones the first is the least.
        int cheapest() {
            int best = NONE;
            int least = 0;
            int fewest = 0;
            int oursAlready = Integer.bitCount(ours);
            for (int set = 0; set < 1 << size; set++) {
                if ((set & ours) != 0) continue;
                int bought = Integer.bitCount(set);
                if (2 * (bought + oursAlready) <= size) continue;
                int cost = sumOver(price, set);
                boolean less = cost < least || cost == least && bought < fewest;
                if ((best == NONE || less) && goTogether(clashes, set)) {
                    best = set;
                    least = cost;
                    fewest = bought;
                }
            }
            return best;
        }
    }

    /** The CLAUSES, and THE SETTLING by them. */
    private static final class Clauses {
        private final int[] undoes = new int[CLAUSES];
        final int[] foes = new int[CLAUSES];
        final int[][] worth = new int[LANDS][CLAUSES];
        int size;

        int add(int acts) {
            undoes[size] = acts;
            return size++;
        }

        int undoneBy(int set, int good) {
            int undone = 0;
            for (int i = 0; i < size; i++) {
                undone |= has(set, i) ? undoes[i] : 0;
            }
            return Integer.bitCount(undone & good);
        }

        int takersOf(int set) {
            int takers = 0;
            for (int land = 0; land < LANDS; land++) {
                takers |= sumOver(worth[land], set) >= 0 ? 1 << land : 0;
            }
            return takers;
        }

        // The empty set is always there to begin with; all LANDS take it.
        int settled(int n, int good) {
            int best = 0;
            for (int set = 1; set < 1 << size; set++) {
                boolean fits = Integer.bitCount(set) >= Integer.bitCount(best) && goTogether(foes, set);
                if (fits && Integer.bitCount(takersOf(set)) >= n && isBetter(set, best, good)) best = set;
            }
            return best;
        }

        private boolean isBetter(int set, int best, int good) {
            int more = Integer.bitCount(set) - Integer.bitCount(best);
            if (more != 0) return more > 0;
            int fewer = undoneBy(best, good) - undoneBy(set, good);
            if (fewer != 0) return fewer > 0;
            return Integer.bitCount(takersOf(set)) > Integer.bitCount(takersOf(best));
        }
    }

    /** THE JOURNEY: orders are tried the lesser LAND first, and only a better one is kept. */
    private static final class Envoys {
        private final Lands lands;
        private final int[] order = new int[ENVOYED];
        final int[] best = new int[ENVOYED];
        int size;
        int mostWon;

        Envoys(Lands lands) {
            this.lands = lands;
        }

        void plan(int from, int others) {
            size = Integer.bitCount(others);
            mostWon = -1;
            goOn(0, from, others, 0, 0);
        }

        /** Goes on from a LAND on a DAY to those that are left, as the journey's LAND of that place. */
        private void goOn(int place, int from, int left, int day, int won) {
            if (won + mayBeWon(from, left, day) <= mostWon) return;
            if (place >= size || place >= ENVOYED) {
                keep(won);
                return;
            }
            for (int land = 0; land < LANDS; land++) {
                if (!has(left, land)) continue;
                order[place] = land;
                int rest = left & ~(1 << land);
                int come = day + lands.ways[from][land];
                if (lands.ways[from][land] == NO_WAY) {
                    giveUp(place + 1, rest, won);
                } else {
                    goOn(place + 1, land, rest, come + STAY, come <= lands.bounds[land] ? won + 1 : won);
                }
            }
        }

        // No way over other LANDS is shorter: what is too late at once stays too late.
        private int mayBeWon(int from, int left, int day) {
            int n = 0;
            for (int land = 0; land < LANDS; land++) {
                int way = lands.ways[from][land];
                if (has(left, land) && way != NO_WAY && day + way <= lands.bounds[land]) n++;
            }
            return n;
        }

        private void giveUp(int place, int rest, int won) {
            if (won <= mostWon) return;
            int next = place;
            for (int land = 0; land < LANDS; land++) {
                if (has(rest, land) && next < ENVOYED) order[next++] = land;
            }
            keep(won);
        }

        private void keep(int won) {
            mostWon = won;
            System.arraycopy(order, 0, best, 0, ENVOYED);
        }
    }

    /** A row of numbers of a sort; of the sort -1 it is missing. */
    private static final class Sheet {
        int sort = -1;
        int size;
        final int[] items = new int[SHEET];

        void become(int newSort, int newSize) {
            sort = newSort;
            size = newSize;
            Arrays.fill(items, 0);
        }

        boolean isMissing() {
            return sort == -1;
        }

        void put(int i, int v) {
            items[i] = sort == 0 ? (byte) v : sort == 1 ? (short) v : v;
        }

        // Without a sum, which might wrap.
        boolean holds(int i, int n) {
            return i >= 0 && n >= 0 && n <= size && i <= size - n;
        }
    }
}
