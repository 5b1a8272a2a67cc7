import java.util.ArrayList;
import java.util.HashMap;
import java.util.List;
import java.util.Map;
import java.util.TreeSet;

/**
 * A second, slow writing of the document, made of lists and copies, against which the class is
 * held. It shares no idea with the class: deals are made one by one (or, where they are too many,
 * bone by bone with what is left remembered), looks ahead work on whole copies of the hand.
 */
final class Model {
    static final int NONE = -1;

    final int top;
    final int seats;
    final int target;
    final int[] scores;
    int state = 0;
    int h = 0;
    int begun = 0;
    int onTurn = NONE;
    int gainer = NONE;
    int points = 0;
    List<TreeSet<Integer>> hands = new ArrayList<>();
    TreeSet<Integer> stock = new TreeSet<>();
    List<int[]> row = new ArrayList<>();
    List<Turn> turns = new ArrayList<>();

    /** A turn, with the hand that the seat had and the ends that it saw ahead of it. */
    static final class Turn {
        int seat;
        int bone;
        int end;
        int left;
        int right;
        TreeSet<Integer> hand;
    }

    Model(int top, int seats, int target) {
        this.top = hold(top, 2, 6);
        this.seats = hold(seats, 2, 4);
        this.target = hold(target, 1, 1000);
        scores = new int[this.seats == 4 ? 2 : this.seats];
        for (int s = 0; s < this.seats; s++) {
            hands.add(new TreeSet<>());
        }
    }

    static int hold(int x, int low, int high) {
        return x < low ? low : x > high ? high : x;
    }

    static int a(int bone) {
        return bone - b(bone) * (b(bone) + 1) / 2;
    }

    static int b(int bone) {
        int b = 0;
        while ((b + 1) * (b + 2) / 2 <= bone) {
            b++;
        }
        return b;
    }

    static boolean bears(int bone, int pips) {
        return a(bone) == pips || b(bone) == pips;
    }

    int bones() {
        int n = 0;
        for (int high = 0; high <= top; high++) {
            n += high + 1;
        }
        return n;
    }

    int sideOf(int seat) {
        return seats < 4 ? seat : seat % 2;
    }

    int won() {
        for (int s = 0; s < scores.length; s++) {
            if (scores[s] >= target) {
                return s;
            }
        }
        return NONE;
    }

    boolean isSeat(int seat) {
        return 0 <= seat && seat < seats;
    }

    boolean isBone(int bone) {
        return 0 <= bone && bone < bones();
    }

    int lay(int share) {
        if (state == 2 || share < 1 || (long) share * seats > bones() || won() != NONE) {
            return NONE;
        }
        state = 1;
        h = share;
        spread();
        row.clear();
        turns.clear();
        gainer = NONE;
        points = 0;
        onTurn = NONE;
        return bones() - share * seats;
    }

    private void spread() {
        for (TreeSet<Integer> hand : hands) {
            hand.clear();
        }
        stock.clear();
        for (int bone = 0; bone < bones(); bone++) {
            stock.add(bone);
        }
    }

    int give(int seat, int bone) {
        if (state != 1 || !isSeat(seat) || !stock.contains(bone) || hands.get(seat).size() >= h) {
            return NONE;
        }
        stock.remove(bone);
        hands.get(seat).add(bone);
        return hands.get(seat).size();
    }

    boolean shuffle(long seed) {
        if (state != 1) {
            return false;
        }
        List<Integer> places = new ArrayList<>();
        for (int bone = 0; bone < bones(); bone++) {
            places.add(bone);
        }
        long x = seed;
        for (int i = places.size() - 1; i >= 1; i--) {
            x = x * 6364136223846793005L + 1442695040888963407L;
            java.util.Collections.swap(places, i, (int) ((x >>> 33) % (i + 1)));
        }
        spread();
        for (int k = 0; k < seats * h; k++) {
            stock.remove(places.get(k));
            hands.get(k / h).add(places.get(k));
        }
        return true;
    }

    boolean begin(int leader) {
        if (state != 1 || !isSeat(leader)) {
            return false;
        }
        for (TreeSet<Integer> hand : hands) {
            if (hand.size() != h) {
                return false;
            }
        }
        state = 2;
        onTurn = leader;
        begun++;
        return true;
    }

    int left() {
        return row.isEmpty() ? NONE : row.get(0)[0];
    }

    int right() {
        return row.isEmpty() ? NONE : row.get(row.size() - 1)[1];
    }

    boolean canPlay(int bone, int end) {
        if (state != 2 || !hands.get(onTurn).contains(bone)) {
            return false;
        }
        if (row.isEmpty()) {
            return true;
        }
        return end == 0 && bears(bone, left()) || end == 1 && bears(bone, right());
    }

    private Turn note(int bone, int end) {
        Turn t = new Turn();
        t.seat = onTurn;
        t.bone = bone;
        t.end = end;
        t.left = left();
        t.right = right();
        t.hand = new TreeSet<>(hands.get(onTurn));
        turns.add(t);
        return t;
    }

    int play(int bone, int end) {
        if (!canPlay(bone, end)) {
            return NONE;
        }
        note(bone, row.isEmpty() ? 0 : end);
        hands.get(onTurn).remove(bone);
        if (row.isEmpty()) {
            row.add(new int[] {a(bone), b(bone)});
        } else if (end == 0) {
            row.add(0, new int[] {a(bone) + b(bone) - left(), left()});
        } else {
            row.add(new int[] {right(), a(bone) + b(bone) - right()});
        }
        if (!hands.get(onTurn).isEmpty()) {
            onTurn = (onTurn + 1) % seats;
            return 0;
        }
        int side = sideOf(onTurn);
        int sum = 0;
        for (int s = 0; s < seats; s++) {
            if (sideOf(s) != side) {
                sum += weight(hands.get(s));
            }
        }
        close(side, sum);
        return 1;
    }

    int pass() {
        if (state != 2 || row.isEmpty()) {
            return NONE;
        }
        note(NONE, NONE);
        boolean stuck = turns.size() >= seats;
        for (int k = 0; stuck && k < seats; k++) {
            stuck = turns.get(turns.size() - 1 - k).bone == NONE;
        }
        if (!stuck) {
            onTurn = (onTurn + 1) % seats;
            return 0;
        }
        int[] weights = sideWeights();
        int all = 0;
        int least = Integer.MAX_VALUE;
        for (int w : weights) {
            all += w;
            least = Math.min(least, w);
        }
        List<Integer> lightest = new ArrayList<>();
        for (int s = 0; s < weights.length; s++) {
            if (weights[s] == least) {
                lightest.add(s);
            }
        }
        if (lightest.size() > 1) {
            close(NONE, 0);
        } else {
            close(lightest.get(0), all - least - least);
        }
        return 1;
    }

    private int[] sideWeights() {
        int[] weights = new int[scores.length];
        for (int s = 0; s < seats; s++) {
            weights[sideOf(s)] += weight(hands.get(s));
        }
        return weights;
    }

    static int weight(TreeSet<Integer> set) {
        int sum = 0;
        for (int bone : set) {
            sum += a(bone) + b(bone);
        }
        return sum;
    }

    private void close(int side, int gain) {
        state = 3;
        onTurn = NONE;
        gainer = side;
        points = gain;
        if (side != NONE) {
            scores[side] += gain;
        }
    }

    boolean back() {
        if (turns.isEmpty()) {
            return false;
        }
        if (state == 3 && gainer != NONE) {
            scores[gainer] -= points;
        }
        Turn t = turns.remove(turns.size() - 1);
        hands.set(t.seat, t.hand);
        if (t.bone != NONE) {
            row.remove(t.end == 0 ? 0 : row.size() - 1);
        }
        state = 2;
        onTurn = t.seat;
        gainer = NONE;
        points = 0;
        return true;
    }

    int about(int what) {
        int[] all = {state, onTurn, h, stock.size(), row.size(), left(), right(), turns.size(), gainer, points,
            won(), bones(), seats, begun};
        return what >= 0 && what < all.length ? all[what] : NONE;
    }

    int score(int side) {
        return side >= 0 && side < scores.length ? scores[side] : NONE;
    }

    int hand(int seat, int k) {
        if (!isSeat(seat) || k < 0 || k >= hands.get(seat).size()) {
            return NONE;
        }
        return new ArrayList<>(hands.get(seat)).get(k);
    }

    int where(int bone) {
        if (state == 0 || !isBone(bone)) {
            return NONE;
        }
        for (int s = 0; s < seats; s++) {
            if (hands.get(s).contains(bone)) {
                return s;
            }
        }
        return stock.contains(bone) ? 10 : 11;
    }

    int row(int i) {
        return i >= 0 && i < row.size() ? 10 * row.get(i)[0] + row.get(i)[1] : NONE;
    }

    int turn(int t, int what) {
        if (t < 0 || t >= turns.size() || what < 0 || what > 2) {
            return NONE;
        }
        Turn x = turns.get(t);
        return what == 0 ? x.seat : what == 1 ? x.bone : x.end;
    }

    /** What a count of deals asks beside agreeing: a bone at a place, or a seat without some pips. */
    static final class Wish {
        int bone = NONE;
        int place = NONE;
        int seat = NONE;
        int left = NONE;
        int right = NONE;
    }

    private boolean fits(int bone, int place, Wish wish) {
        if (bone == wish.bone && place != wish.place) {
            return false;
        }
        if (place == 10) {
            return true;
        }
        for (Turn t : turns) {
            if (t.seat == place && t.bone == NONE && (bears(bone, t.left) || bears(bone, t.right))) {
                return false;
            }
        }
        return place != wish.seat || !(bears(bone, wish.left) || bears(bone, wish.right));
    }

    private long count(int viewer, Wish wish) {
        List<Integer> unseen = new ArrayList<>();
        for (int bone = 0; bone < bones(); bone++) {
            if (where(bone) != viewer && where(bone) != 11) {
                unseen.add(bone);
            }
        }
        int[] room = new int[11];
        for (int s = 0; s < seats; s++) {
            room[s] = s == viewer ? 0 : hands.get(s).size();
        }
        room[10] = stock.size();
        Map<Long, Long> known = unseen.size() > 9 ? new HashMap<>() : null;
        return count(unseen, 0, room, wish, known);
    }

    private long count(List<Integer> unseen, int at, int[] room, Wish wish, Map<Long, Long> known) {
        if (at == unseen.size()) {
            return 1;
        }
        long key = at;
        for (int n : room) {
            key = key * 29 + n;
        }
        if (known != null && known.containsKey(key)) {
            return known.get(key);
        }
        long sum = 0;
        for (int place = 0; place < room.length; place++) {
            if (room[place] > 0 && fits(unseen.get(at), place, wish)) {
                room[place]--;
                sum += count(unseen, at + 1, room, wish, known);
                room[place]++;
            }
        }
        if (known != null) {
            known.put(key, sum);
        }
        return sum;
    }

    long deals(int seat) {
        return state < 2 || !isSeat(seat) ? NONE : count(seat, new Wish());
    }

    long chance(int seat, int bone, int place) {
        if (deals(seat) == NONE || !isBone(bone) || !(isSeat(place) || place == 10 || place == 11)) {
            return NONE;
        }
        if (where(bone) == seat || where(bone) == 11) {
            return where(bone) == place ? deals(seat) : 0;
        }
        Wish wish = new Wish();
        wish.bone = bone;
        wish.place = place;
        return count(seat, wish);
    }

    long held(int bone, int end) {
        if (!canPlay(bone, end)) {
            return NONE;
        }
        Wish wish = new Wish();
        wish.seat = (onTurn + 1) % seats;
        Model behind = copy();
        behind.play(bone, end);
        wish.left = behind.left();
        wish.right = behind.right();
        return count(onTurn, wish);
    }

    private List<int[]> plays() {
        List<int[]> list = new ArrayList<>();
        for (int bone = 0; bone < bones(); bone++) {
            for (int end = 0; end < (row.isEmpty() ? 1 : 2); end++) {
                if (canPlay(bone, end)) {
                    list.add(new int[] {bone, end});
                }
            }
        }
        return list;
    }

    int safest() {
        int best = NONE;
        for (int[] p : plays()) {
            if (best == NONE || held(p[0], p[1]) > held(best / 2, best % 2)) {
                best = 2 * p[0] + p[1];
            }
        }
        return best;
    }

    Model copy() {
        Model m = new Model(top, seats, target);
        System.arraycopy(scores, 0, m.scores, 0, scores.length);
        m.state = state;
        m.h = h;
        m.begun = begun;
        m.onTurn = onTurn;
        m.gainer = gainer;
        m.points = points;
        for (int s = 0; s < seats; s++) {
            m.hands.set(s, new TreeSet<>(hands.get(s)));
        }
        m.stock = new TreeSet<>(stock);
        m.row = new ArrayList<>(row);
        m.turns = new ArrayList<>(turns);
        return m;
    }

    int look(int n, int what) {
        if (state != 2 || n < 1 || n > 4 || what < 0 || what > 2) {
            return -100000;
        }
        return ahead(n, sideOf(onTurn))[what];
    }

    /** The worth, the first play that has it, and the turns that were made. */
    private int[] ahead(int n, int side) {
        if (state == 3) {
            return new int[] {gainer == NONE ? 0 : gainer == side ? 1000 + points : -1000 - points, NONE, 0};
        }
        if (n == 0) {
            int worth = 0;
            for (int s = 0; s < seats; s++) {
                worth += (sideOf(s) == side ? -1 : 1) * weight(hands.get(s));
            }
            return new int[] {worth, NONE, 0};
        }
        if (plays().isEmpty()) {
            Model m = copy();
            m.pass();
            int[] got = m.ahead(n - 1, side);
            return new int[] {got[0], NONE, got[2] + 1};
        }
        int sign = sideOf(onTurn) == side ? 1 : -1;
        int best = Integer.MIN_VALUE;
        int first = NONE;
        int made = 0;
        for (int[] p : plays()) {
            Model m = copy();
            m.play(p[0], p[1]);
            int[] got = m.ahead(n - 1, side);
            made += got[2] + 1;
            if (sign * got[0] > best) {
                best = sign * got[0];
                first = 2 * p[0] + p[1];
            }
        }
        return new int[] {sign * best, first, made};
    }

    int judge() {
        if (state != 3) {
            return NONE;
        }
        for (int t = 0; t < turns.size(); t++) {
            Turn x = turns.get(t);
            if (x.bone == NONE) {
                for (int bone : x.hand) {
                    if (bears(bone, x.left) || bears(bone, x.right)) {
                        return t;
                    }
                }
            }
        }
        return NONE;
    }
}
