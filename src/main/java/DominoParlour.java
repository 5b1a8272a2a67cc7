import java.util.Arrays;

/**
 * A domino parlour: hands of bones in partnerships, rows played and passed by the laws, the deals
 * that agree with what a seat was shown, looks ahead, false passes, and matches to a score.
 */
public final class DominoParlour {
    public static final int NONE = -1;

    private static final int STOCK = 10;
    private static final int ROW = 11;
    private static final int LEFT = 0;
    private static final int RIGHT = 1;

    private static final int NO_HAND = 0;
    private static final int LAID = 1;
    private static final int PLAYED = 2;
    private static final int OVER = 3;

    private static final int NO_LOOK = -100000;
    private static final int FARTHEST_LOOK = 4;
    private static final int OVER_WORTH = 1000;

    private static final int MOST_BONES = 28;
    private static final int PARTNERED_SEATS = 4;

    private static final int[] LOW = {
        0, 0, 1, 0, 1, 2, 0, 1, 2, 3, 0, 1, 2, 3, 4, 0, 1, 2, 3, 4, 5, 0, 1, 2, 3, 4, 5, 6
    };
    private static final int[] HIGH = {
        0, 1, 1, 2, 2, 2, 3, 3, 3, 3, 4, 4, 4, 4, 4, 5, 5, 5, 5, 5, 5, 6, 6, 6, 6, 6, 6, 6
    };

    private final int target;
    private final int[] scores;
    private final Table table;
    private final Tally tally;
    private final Search search;
    private int begun;

    public DominoParlour(int top, int seats, int target) {
        int heldTop = Math.max(2, Math.min(6, top));
        int heldSeats = Math.max(2, Math.min(4, seats));
        this.target = Math.max(1, Math.min(1000, target));
        table = new Table(heldTop, heldSeats);
        scores = new int[Math.max(0, table.sides())];
        tally = new Tally(table);
        search = new Search(table);
    }

    public int lay(int h) {
        if (table.state == PLAYED || winner() != NONE || !table.allows(h)) {
            return NONE;
        }
        table.layOut(h);
        return table.bones - h * table.seats;
    }

    public int give(int seat, int bone) {
        if (table.state != LAID || !table.isSeat(seat) || table.placeOf(bone) != STOCK) {
            return NONE;
        }
        if (table.heldBy(seat) >= table.share) {
            return NONE;
        }
        table.takeFromStock(seat, bone);
        return table.heldBy(seat);
    }

    public boolean shuffle(long seed) {
        if (table.state != LAID) {
            return false;
        }
        table.dealOut(seed);
        return true;
    }

    public boolean begin(int leader) {
        if (table.state != LAID || !table.isSeat(leader) || !table.isDealt()) {
            return false;
        }
        table.open(leader);
        begun++;
        return true;
    }

    public int play(int bone, int end) {
        if (!table.canPut(bone, end)) {
            return NONE;
        }
        table.put(bone, end);
        return scoreIfOver();
    }

    public int pass() {
        if (table.state != PLAYED || table.line.isEmpty()) {
            return NONE;
        }
        table.skip();
        return scoreIfOver();
    }

    public boolean back() {
        if (table.state == OVER) {
            addToScore(table.gainer, -table.points);
        }
        return table.undo();
    }

    public int about(int what) {
        switch (what) {
            case 0: return table.state;
            case 1: return table.onTurn;
            case 2: return table.share;
            case 3: return Integer.bitCount(table.stock);
            case 4: return table.line.size;
            case 5: return table.line.pipsAt(LEFT);
            case 6: return table.line.pipsAt(RIGHT);
            case 7: return table.turns.size;
            case 8: return table.gainer;
            case 9: return table.points;
            case 10: return winner();
            case 11: return table.bones;
            case 12: return table.seats;
            case 13: return begun;
            default: return NONE;
        }
    }

    public int score(int side) {
        return side >= 0 && side < scores.length ? scores[side] : NONE;
    }

    public int hand(int seat, int k) {
        return k < 0 ? NONE : boneInOrder(table.handOf(seat), k);
    }

    public int where(int bone) {
        return table.placeOf(bone);
    }

    public int row(int i) {
        return table.line.tileAt(i);
    }

    public int turn(int t, int what) {
        switch (what) {
            case 0: return table.turns.seatOf(t);
            case 1: return table.turns.boneOf(t);
            case 2: return table.turns.endOf(t);
            default: return NONE;
        }
    }

    public long deals(int seat) {
        return isShown(seat) ? tally.all(seat) : NONE;
    }

    public long chance(int seat, int bone, int place) {
        int real = table.placeOf(bone);
        boolean isPlace = table.isSeat(place) || place == STOCK || place == ROW;
        if (!isShown(seat) || real == NONE || !isPlace) {
            return NONE;
        }
        if (real == seat || real == ROW) {
            return real == place ? tally.all(seat) : 0;
        }
        if (place == seat || place == ROW) {
            return 0;
        }
        return tally.withBoneAt(seat, bone, place);
    }

    public long held(int bone, int end) {
        return table.canPut(bone, end) ? dealsBlocking(bone, end) : NONE;
    }

    public int safest() {
        int best = NONE;
        long most = NONE;
        int left = table.playsAt(LEFT);
        int right = table.playsAt(RIGHT);
        for (int code = 0; code < 2 * table.bones; code++) {
            if (isPlay(code, left, right)) {
                long blocked = dealsBlocking(code >> 1, code & 1);
                if (blocked > most) {
                    most = blocked;
                    best = code;
                }
            }
        }
        return best;
    }

    public int look(int n, int what) {
        if (table.state != PLAYED || n < 1 || n > FARTHEST_LOOK || what < 0 || what > 2) {
            return NO_LOOK;
        }
        int worth = search.ahead(n);
        if (what == 0) {
            return worth;
        }
        return what == 1 ? search.chosen : search.made;
    }

    public int judge() {
        return table.state == OVER ? table.turns.firstFalsePass() : NONE;
    }

    private boolean isShown(int seat) {
        return (table.state == PLAYED || table.state == OVER) && table.isSeat(seat);
    }

    private int winner() {
        for (int side = 0; side < scores.length; side++) {
            if (scores[side] >= target) {
                return side;
            }
        }
        return NONE;
    }

    private int scoreIfOver() {
        if (table.state != OVER) {
            return 0;
        }
        addToScore(table.gainer, table.points);
        return 1;
    }

    private void addToScore(int side, int points) {
        if (side >= 0 && side < scores.length) {
            scores[side] += points;
        }
    }

    private long dealsBlocking(int bone, int end) {
        int seat = table.onTurn;
        // The turn is made and undone, so that its new ends are told by the laws of play alone.
        table.put(bone, end);
        int open = table.openBones();
        table.undo();
        return tally.withSeatLacking(seat, table.seatBehind(seat), open);
    }

    private static int lowOf(int bone) {
        return bone >= 0 && bone < LOW.length ? LOW[bone] : NONE;
    }

    private static int highOf(int bone) {
        return bone >= 0 && bone < HIGH.length ? HIGH[bone] : NONE;
    }

    private static boolean isIn(int set, int bone) {
        return bone >= 0 && bone < MOST_BONES && (set & (1 << bone)) != 0;
    }

    private static int boneInOrder(int set, int k) {
        int before = 0;
        for (int bone = 0; bone < MOST_BONES; bone++) {
            if (isIn(set, bone)) {
                if (before == k) {
                    return bone;
                }
                before++;
            }
        }
        return NONE;
    }

    /** Whether 2 times a bone, and an end, is among the bones that can go to the left and right end. */
    private static boolean isPlay(int code, int left, int right) {
        return isIn((code & 1) == LEFT ? left : right, code >> 1);
    }

    /** The row of bones on the table, each turned so that it meets its neighbours. */
    private static final class Line {
        // The first bone lies in the middle, so that all others could go to either end of it.
        private final int[] tiles = new int[2 * MOST_BONES];
        private int first = MOST_BONES;
        private int size = 0;

        private void clear() {
            first = MOST_BONES;
            size = 0;
        }

        private boolean isEmpty() {
            return size == 0;
        }

        private int tileAt(int i) {
            if (i < 0 || i >= size) {
                return NONE;
            }
            int place = first + i;
            return place >= 0 && place < tiles.length ? tiles[place] : NONE;
        }

        private int pipsAt(int end) {
            if (isEmpty()) {
                return NONE;
            }
            return end == LEFT ? tileAt(0) / 10 : tileAt(size - 1) % 10;
        }

        private void add(int bone, int end) {
            if (isEmpty()) {
                addLeft(10 * lowOf(bone) + highOf(bone));
                return;
            }
            int meeting = pipsAt(end);
            int outer = lowOf(bone) == meeting ? highOf(bone) : lowOf(bone);
            if (end == LEFT) {
                addLeft(10 * outer + meeting);
            } else {
                addRight(10 * meeting + outer);
            }
        }

        private void addLeft(int tile) {
            int place = first - 1;
            if (place >= 0 && place < tiles.length) {
                tiles[place] = tile;
                first = place;
                size++;
            }
        }

        private void addRight(int tile) {
            int place = first + size;
            if (place >= 0 && place < tiles.length) {
                tiles[place] = tile;
                size++;
            }
        }

        private void drop(int end) {
            if (isEmpty()) {
                return;
            }
            if (end == LEFT) {
                first++;
            }
            size--;
        }
    }

    /** The turns of a hand in their order. */
    private static final class Turns {
        // At most 28 plays, and no more than four passes behind any of them.
        private static final int MOST_TURNS = 5 * MOST_BONES;

        private final int[] seats = new int[MOST_TURNS];
        private final int[] bones = new int[MOST_TURNS];
        private final int[] ends = new int[MOST_TURNS];
        private final int[] refused = new int[MOST_TURNS];
        private final boolean[] lies = new boolean[MOST_TURNS];
        private int size = 0;

        private void clear() {
            size = 0;
        }

        private void addPlay(int seat, int bone, int end) {
            if (size >= 0 && size < MOST_TURNS) {
                seats[size] = seat;
                bones[size] = bone;
                ends[size] = end;
                refused[size] = 0;
                lies[size] = false;
                size++;
            }
        }

        private void addPass(int seat, int open, boolean lie) {
            if (size >= 0 && size < MOST_TURNS) {
                seats[size] = seat;
                bones[size] = NONE;
                ends[size] = NONE;
                refused[size] = open;
                lies[size] = lie;
                size++;
            }
        }

        private void dropLast() {
            if (size > 0) {
                size--;
            }
        }

        private boolean isTurn(int t) {
            return t >= 0 && t < size && t < MOST_TURNS;
        }

        private int seatOf(int t) {
            return isTurn(t) ? seats[t] : NONE;
        }

        private int boneOf(int t) {
            return isTurn(t) ? bones[t] : NONE;
        }

        private int endOf(int t) {
            return isTurn(t) ? ends[t] : NONE;
        }

        private int passesAtEnd() {
            int passes = 0;
            for (int t = size - 1; t >= 0 && boneOf(t) == NONE; t--) {
                passes++;
            }
            return passes;
        }

        /** All bones that a seat can't hold any more if none of its passes was false. */
        private int refusedBy(int seat) {
            int set = 0;
            for (int t = 0; t < size && t < MOST_TURNS; t++) {
                if (seats[t] == seat) {
                    set |= refused[t];
                }
            }
            return set;
        }

        private int firstFalsePass() {
            for (int t = 0; t < size && t < MOST_TURNS; t++) {
                if (lies[t]) {
                    return t;
                }
            }
            return NONE;
        }
    }

    /**
     * One hand of play: who holds what, the row, the turns, and how it ended. Sets of bones are
     * numbers with a bit for each bone.
     */
    private static final class Table {
        private final int seats;
        private final int bones;
        private final int[] hands;
        private final int[] weights;
        private final int[] bearing = new int[7];
        private final int[] order;
        private final Line line = new Line();
        private final Turns turns = new Turns();
        private int state = NO_HAND;
        private int share = 0;
        private int stock = 0;
        private int onTurn = NONE;
        private int gainer = NONE;
        private int points = 0;

        private Table(int top, int seats) {
            this.seats = seats;
            bones = (top + 1) * (top + 2) / 2;
            hands = new int[Math.max(0, seats)];
            weights = new int[Math.max(0, sides())];
            order = new int[Math.max(0, bones)];
            for (int pips = 0; pips < bearing.length; pips++) {
                for (int bone = 0; bone < bones && bone < MOST_BONES; bone++) {
                    if (lowOf(bone) == pips || highOf(bone) == pips) {
                        bearing[pips] |= 1 << bone;
                    }
                }
            }
        }

        private boolean isSeat(int seat) {
            return seat >= 0 && seat < hands.length;
        }

        private int seatBehind(int seat) {
            return seat + 1 < seats ? seat + 1 : 0;
        }

        private int sideOf(int seat) {
            return seats == PARTNERED_SEATS ? seat & 1 : seat;
        }

        private int sides() {
            return seats == PARTNERED_SEATS ? 2 : seats;
        }

        private int handOf(int seat) {
            return isSeat(seat) ? hands[seat] : 0;
        }

        private int heldBy(int seat) {
            return Integer.bitCount(handOf(seat));
        }

        private int placeOf(int bone) {
            if (state == NO_HAND || bone < 0 || bone >= bones) {
                return NONE;
            }
            for (int seat = 0; seat < hands.length; seat++) {
                if (isIn(hands[seat], bone)) {
                    return seat;
                }
            }
            return isIn(stock, bone) ? STOCK : ROW;
        }

        private boolean allows(int h) {
            return h >= 1 && h <= bones && h * seats <= bones;
        }

        private void layOut(int h) {
            state = LAID;
            share = h;
            stock = (1 << bones) - 1;
            Arrays.fill(hands, 0);
            Arrays.fill(weights, 0);
            line.clear();
            turns.clear();
            onTurn = NONE;
            gainer = NONE;
            points = 0;
        }

        private void takeFromStock(int seat, int bone) {
            if (isIn(stock, bone)) {
                stock &= ~(1 << bone);
                pickUp(seat, bone);
            }
        }

        private void pickUp(int seat, int bone) {
            if (isSeat(seat) && bone >= 0 && bone < bones) {
                hands[seat] |= 1 << bone;
                addWeight(sideOf(seat), lowOf(bone) + highOf(bone));
            }
        }

        private void putDown(int seat, int bone) {
            if (isSeat(seat) && bone >= 0 && bone < bones) {
                hands[seat] &= ~(1 << bone);
                addWeight(sideOf(seat), -lowOf(bone) - highOf(bone));
            }
        }

        private void addWeight(int side, int weight) {
            if (side >= 0 && side < weights.length) {
                weights[side] += weight;
            }
        }

        private void dealOut(long seed) {
            mix(seed);
            layOut(share);
            for (int seat = 0; seat < hands.length; seat++) {
                for (int i = seat * share; i < (seat + 1) * share && i < order.length; i++) {
                    takeFromStock(seat, order[i]);
                }
            }
        }

        private void mix(long seed) {
            for (int i = 0; i < order.length; i++) {
                order[i] = i;
            }
            long x = seed;
            for (int i = order.length - 1; i >= 1; i--) {
                x = x * 6364136223846793005L + 1442695040888963407L;
                int j = (int) ((x >>> 33) % (i + 1));
                if (j >= 0 && j < order.length) {
                    int bone = order[i];
                    order[i] = order[j];
                    order[j] = bone;
                }
            }
        }

        private boolean isDealt() {
            for (int seat = 0; seat < hands.length; seat++) {
                if (heldBy(seat) != share) {
                    return false;
                }
            }
            return true;
        }

        private void open(int leader) {
            state = PLAYED;
            onTurn = leader;
        }

        private int bonesBearing(int pips) {
            return pips >= 0 && pips < bearing.length ? bearing[pips] : 0;
        }

        /** The bones that could be laid at an end of the row now, whoever has them. */
        private int openBones() {
            return bonesBearing(line.pipsAt(LEFT)) | bonesBearing(line.pipsAt(RIGHT));
        }

        private boolean canPut(int bone, int end) {
            if (state != PLAYED || !isIn(handOf(onTurn), bone)) {
                return false;
            }
            if (line.isEmpty()) {
                return true;
            }
            return (end == LEFT || end == RIGHT) && isIn(bonesBearing(line.pipsAt(end)), bone);
        }

        /** The bones that the seat on turn can play at an end: on an empty row all, at the left alone. */
        private int playsAt(int end) {
            if (state != PLAYED) {
                return 0;
            }
            int allowed = line.isEmpty() ? (end == LEFT ? -1 : 0) : bonesBearing(line.pipsAt(end));
            return handOf(onTurn) & allowed;
        }

        private void put(int bone, int end) {
            if (!canPut(bone, end) || !isSeat(onTurn)) {
                return;
            }
            int side = line.isEmpty() ? LEFT : end;
            line.add(bone, side);
            putDown(onTurn, bone);
            turns.addPlay(onTurn, bone, side);
            if (hands[onTurn] == 0) {
                int winners = sideOf(onTurn);
                finish(winners, othersWeight(winners));
            } else {
                onTurn = seatBehind(onTurn);
            }
        }

        private void skip() {
            int open = openBones();
            turns.addPass(onTurn, open, (handOf(onTurn) & open) != 0);
            if (turns.passesAtEnd() >= seats) {
                finishStuck();
            } else {
                onTurn = seatBehind(onTurn);
            }
        }

        private boolean undo() {
            int last = turns.size - 1;
            int seat = turns.seatOf(last);
            int bone = turns.boneOf(last);
            if (!isSeat(seat)) {
                return false;
            }
            if (bone != NONE) {
                line.drop(turns.endOf(last));
                pickUp(seat, bone);
            }
            turns.dropLast();
            state = PLAYED;
            onTurn = seat;
            gainer = NONE;
            points = 0;
            return true;
        }

        private int sideWeight(int side) {
            return side >= 0 && side < weights.length ? weights[side] : 0;
        }

        private int othersWeight(int side) {
            int weight = 0;
            for (int other = 0; other < weights.length; other++) {
                if (other != side) {
                    weight += weights[other];
                }
            }
            return weight;
        }

        private void finish(int side, int gain) {
            state = OVER;
            onTurn = NONE;
            gainer = side;
            points = gain;
        }

        private void finishStuck() {
            int best = NONE;
            boolean shared = false;
            for (int side = 0; side < weights.length; side++) {
                if (best == NONE || weights[side] < sideWeight(best)) {
                    best = side;
                    shared = false;
                } else if (weights[side] == sideWeight(best)) {
                    shared = true;
                }
            }
            if (shared) {
                finish(NONE, 0);
            } else {
                finish(best, othersWeight(best) - sideWeight(best));
            }
        }

        private int worthFor(int side) {
            if (state != OVER) {
                return othersWeight(side) - sideWeight(side);
            }
            if (gainer == NONE) {
                return 0;
            }
            return gainer == side ? OVER_WORTH + points : -OVER_WORTH - points;
        }
    }

    /**
     * Counts the deals that agree with what a seat sees. The unseen bones are sorted into kinds by
     * which of the (at most three) other seats may hold them, a bit for each: bones of one kind
     * are alike, so that choosing how many of each kind a seat has counts all deals at once. The
     * stock takes whatever is left.
     */
    private static final class Tally {
        private static final int OTHERS = 3;
        private static final int KINDS = 8;
        private static final int ROWS = MOST_BONES + 1;

        private final Table table;
        private final int[] pascal = new int[ROWS * (ROWS + 1) / 2];
        private final int[] need = new int[OTHERS];
        private final int[] may = new int[OTHERS];
        private final int[] kind = new int[KINDS];

        private Tally(Table table) {
            this.table = table;
            for (int n = 0; n < ROWS; n++) {
                for (int k = 0; k <= n; k++) {
                    int sum = choose(n - 1, k - 1) + choose(n - 1, k);
                    pascal[n * (n + 1) / 2 + k] = n == 0 ? 1 : sum;
                }
            }
        }

        private long all(int viewer) {
            return withSeatLacking(viewer, NONE, 0);
        }

        private long withSeatLacking(int viewer, int seat, int lacked) {
            int unseen = unseenBy(viewer);
            admit(viewer, unseen, seat, lacked);
            return count(unseen);
        }

        private long withBoneAt(int viewer, int bone, int place) {
            int unseen = unseenBy(viewer);
            admit(viewer, unseen, NONE, 0);
            if (!isIn(unseen, bone) || (place != STOCK && !settle(slotOf(viewer, place), bone))) {
                return 0;
            }
            return count(unseen & ~(1 << bone));
        }

        private int unseenBy(int viewer) {
            int unseen = table.stock;
            for (int seat = 0; seat < table.seats; seat++) {
                if (seat != viewer) {
                    unseen |= table.handOf(seat);
                }
            }
            return unseen;
        }

        private int slotOf(int viewer, int seat) {
            return seat < viewer ? seat : seat - 1;
        }

        private void admit(int viewer, int unseen, int strictSeat, int lacked) {
            Arrays.fill(need, 0);
            Arrays.fill(may, 0);
            for (int seat = 0; seat < table.seats; seat++) {
                int slot = slotOf(viewer, seat);
                if (seat != viewer && slot >= 0 && slot < OTHERS) {
                    int out = table.turns.refusedBy(seat) | (seat == strictSeat ? lacked : 0);
                    need[slot] = table.heldBy(seat);
                    may[slot] = unseen & ~out;
                }
            }
        }

        private boolean settle(int slot, int bone) {
            if (slot < 0 || slot >= OTHERS || need[slot] < 1 || !isIn(may[slot], bone)) {
                return false;
            }
            need[slot]--;
            return true;
        }

        private long count(int unseen) {
            for (int mask = 0; mask < KINDS; mask++) {
                int set = unseen;
                for (int slot = 0; slot < OTHERS; slot++) {
                    set &= isIn(mask, slot) ? may[slot] : ~may[slot];
                }
                kind[mask] = Integer.bitCount(set);
            }
            return waysOfFirst();
        }

        private long waysOfFirst() {
            long sum = 0;
            for (int a = 0; a <= need[0] && a <= kind[1]; a++) {
                for (int b = 0; a + b <= need[0] && b <= kind[3]; b++) {
                    for (int c = 0; a + b + c <= need[0] && c <= kind[5]; c++) {
                        sum += waysOfTaking(a, b, c, need[0] - a - b - c);
                    }
                }
            }
            return sum;
        }

        /** The first seat has a, b, c and d of the four kinds that it may hold. */
        private long waysOfTaking(int a, int b, int c, int d) {
            long ways = (long) choose(kind[1], a) * choose(kind[3], b) * choose(kind[5], c) * choose(kind[7], d);
            if (ways == 0) {
                return 0;
            }
            return ways * waysOfOthers(kind[2] + kind[3] - b, kind[4] + kind[5] - c, kind[6] + kind[7] - d);
        }

        private long waysOfOthers(int secondOnly, int thirdOnly, int both) {
            long sum = 0;
            for (int j = 0; j <= need[1] && j <= both; j++) {
                long ways = (long) choose(both, j) * choose(secondOnly, need[1] - j);
                sum += ways * choose(both - j + thirdOnly, need[2]);
            }
            return sum;
        }

        private int choose(int n, int k) {
            return n >= 0 && n < ROWS && k >= 0 && k <= n ? pascal[n * (n + 1) / 2 + k] : 0;
        }
    }

    /** Looks ahead with all bones seen; turns are made on the table itself and undone. */
    private static final class Search {
        private final Table table;
        private int side = NONE;
        private int made = 0;
        private int chosen = NONE;

        private Search(Table table) {
            this.table = table;
        }

        private int ahead(int n) {
            side = table.sideOf(table.onTurn);
            made = 0;
            return best(n);
        }

        private int best(int left) {
            if (left <= 0 || left > FARTHEST_LOOK || table.state != PLAYED) {
                return table.worthFor(side);
            }
            boolean ours = table.sideOf(table.onTurn) == side;
            int choice = NONE;
            int worth = 0;
            int leftPlays = table.playsAt(LEFT);
            int rightPlays = table.playsAt(RIGHT);
            for (int code = 0; code < 2 * table.bones; code++) {
                if (isPlay(code, leftPlays, rightPlays)) {
                    table.put(code >> 1, code & 1);
                    int got = behindTurn(left);
                    if (choice == NONE || (ours ? got > worth : got < worth)) {
                        choice = code;
                        worth = got;
                    }
                }
            }
            if (choice == NONE) {
                table.skip();
                worth = behindTurn(left);
            }
            // The outermost level writes last, so that its choice is the one that stays.
            chosen = choice;
            return worth;
        }

        private int behindTurn(int left) {
            made++;
            int worth = best(left - 1);
            table.undo();
            return worth;
        }
    }
}
