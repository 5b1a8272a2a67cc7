/** For each promise of the document: ordinary calls, its edges, and wrong inputs, with answers worked out by hand. */
public final class PromiseTest {
    private static final int NONE = Kit.NONE;
    private static final int FAR = Kit.FAR;
    private static final int LOW = Kit.LOW;

    private static void due(String call, long got, long want) {
        Kit.due(call, got, want);
    }

    private static void due(String call, boolean got, boolean want) {
        Kit.due(call, got, want);
    }

    private static DominoParlour begun(int top, int target, int leader, int[][] hands) {
        return Kit.begun(top, target, leader, hands);
    }

    private static void givenAndBegun(DominoParlour x, int leader, int[][] hands) {
        Kit.givenAndBegun(x, leader, hands);
    }

    /** Bones of top 2: 0 (0,0), 1 (0,1), 2 (1,1), 3 (0,2), 4 (1,2), 5 (2,2). */
    private static DominoParlour small() {
        return Kit.played();
    }

    private static void promise1() {
        int[][] sizes = {{2, 6}, {3, 10}, {4, 15}, {5, 21}, {6, 28}, {1, 6}, {7, 28}, {LOW, 6}, {FAR, 28}};
        for (int[] s : sizes) {
            due("1: bones of top " + s[0], new DominoParlour(s[0], 2, 10).about(11), s[1]);
        }
        int[][] seats = {{2, 2}, {3, 3}, {4, 4}, {1, 2}, {5, 4}, {LOW, 2}, {FAR, 4}};
        for (int[] s : seats) {
            due("1: seats " + s[0], new DominoParlour(6, s[0], 10).about(12), s[1]);
        }
        DominoParlour x = new DominoParlour(6, 4, 10);
        int[] fresh = {0, NONE, 0, 0, 0, NONE, NONE, 0, NONE, 0, NONE, 28, 4, 0};
        for (int what = 0; what < fresh.length; what++) {
            due("1: about(" + what + ")", x.about(what), fresh[what]);
        }
        due("1: score(0)", x.score(0), 0);
        due("1: score(1)", x.score(1), 0);
        targets();
    }

    private static void targets() {
        // Seat 0 goes out against 2 (bone 2), so that a target of 1 or 2 is won and one of 3 is not.
        int[][] targets = {{0, 0}, {LOW, 0}, {1, 0}, {2, 0}, {3, NONE}, {1000, NONE}, {FAR, NONE}};
        for (int[] t : targets) {
            DominoParlour x = begun(2, t[0], 0, new int[][] {{0}, {2}});
            due("1: play(0, 0)", x.play(0, 0), 1);
            due("1: winner at target " + t[0], x.about(10), t[1]);
        }
        highestTarget();
    }

    private static void highestTarget() {
        // Hands of one bone: seat 0 goes out with (0,0) against (6,6), 12 points each.
        int[] targets = {1000, 1001, 5000, 999};
        for (int target : targets) {
            DominoParlour x = new DominoParlour(6, 2, target);
            for (int i = 1; i <= 84; i++) {
                givenAndBegun(x, 0, new int[][] {{0}, {27}});
                due("1: play(0, 0)", x.play(0, 0), 1);
                due("1: winner behind " + i + " hands to " + target, x.about(10), i < 84 ? NONE : 0);
            }
            due("1: score(0)", x.score(0), 1008);
            due("1: lay(1)", x.lay(1), NONE);
        }
    }

    private static void promise2() {
        int[][] most = {{2, 2, 3}, {2, 3, 2}, {2, 4, 1}, {3, 4, 2}, {4, 2, 7}, {5, 4, 5}, {6, 2, 14}, {6, 3, 9}, {6, 4, 7}};
        for (int[] s : most) {
            DominoParlour x = new DominoParlour(s[0], s[1], 10);
            int all = x.about(11);
            due("2: lay(too many)", x.lay(s[2] + 1), NONE);
            due("2: no hand", x.about(0), 0);
            due("2: lay(most)", x.lay(s[2]), all - s[1] * s[2]);
            due("2: state", x.about(0), 1);
            due("2: stock at first", x.about(3), all);
        }
        DominoParlour x = new DominoParlour(2, 2, 10);
        int[] none = {0, -1, LOW, 4, FAR, 1 << 30, 1 << 31, (1 << 31) + 1};
        for (int h : none) {
            due("2: lay(" + h + ")", x.lay(h), NONE);
        }
        due("2: lay(2)", x.lay(2), 2);
        due("2: give", x.give(0, 3), 1);
        due("2: lay(4) does nothing", x.lay(4), NONE);
        due("2: still h", x.about(2), 2);
        due("2: still given", x.where(3), 0);
        due("2: lay(3) in its place", x.lay(3), 0);
        due("2: where(3)", x.where(3), 10);
        due("2: h", x.about(2), 3);
        layWhilePlayed();
        layWhenOver();
    }

    private static void layWhilePlayed() {
        DominoParlour x = small();
        due("2: lay while it is played", x.lay(1), NONE);
        due("2: state", x.about(0), 2);
        x.play(4, 0);
        due("2: lay while it is played", x.lay(2), NONE);
        due("2: the row stays", x.about(4), 1);
    }

    private static void layWhenOver() {
        DominoParlour x = begun(2, 3, 0, new int[][] {{0}, {2}});
        due("2: out", x.play(0, 0), 1);
        due("2: lay behind one that is over", x.lay(2), 2);
        int[] anew = {1, NONE, 2, 6, 0, NONE, NONE, 0, NONE, 0, NONE, 6, 2, 1};
        for (int what = 0; what < anew.length; what++) {
            due("2: about(" + what + ")", x.about(what), anew[what]);
        }
        due("2: score stays", x.score(0), 2);
        due("2: row(0)", x.row(0), NONE);
        due("2: turn(0, 0)", x.turn(0, 0), NONE);
        givenAndBegun(x, 0, new int[][] {{0}, {2}});
        x.play(0, 0);
        due("2: won", x.about(10), 0);
        due("2: lay when it is won", x.lay(1), NONE);
        due("2: it stays over", x.about(0), 3);
        due("2: back", x.back(), true);
        due("2: not won any more, but played", x.lay(1), NONE);
    }

    private static void promise3() {
        DominoParlour x = new DominoParlour(2, 3, 10);
        due("3: no hand", x.give(0, 0), NONE);
        x.lay(2);
        due("3: give", x.give(2, 5), 1);
        due("3: where(5)", x.where(5), 2);
        due("3: stock", x.about(3), 5);
        due("3: given already", x.give(2, 5), NONE);
        due("3: given to another", x.give(1, 5), NONE);
        int[] noSeats = {-1, 3, 10, LOW, FAR};
        for (int seat : noSeats) {
            due("3: give(" + seat + ", 0)", x.give(seat, 0), NONE);
        }
        int[] noBones = {-1, 6, 28, 32, LOW, FAR};
        for (int bone : noBones) {
            due("3: give(0, " + bone + ")", x.give(0, bone), NONE);
        }
        due("3: second", x.give(2, 0), 2);
        due("3: a third is too many", x.give(2, 1), NONE);
        due("3: stock", x.about(3), 4);
        due("3: bone 1 stays", x.where(1), 10);
        due("3: others", x.give(0, 1), 1);
        x.give(0, 2);
        x.give(1, 3);
        x.give(1, 4);
        due("3: begin", x.begin(1), true);
        due("3: when played", x.give(0, 3), NONE);
        DominoParlour y = begun(2, 10, 0, new int[][] {{0}, {2}});
        due("3: when played, of the stock", y.give(0, 1), NONE);
        y.play(0, 0);
        due("3: when over", y.give(0, 1), NONE);
    }

    private static void promise4() {
        DominoParlour x = new DominoParlour(2, 2, 10);
        due("4: no hand", x.shuffle(1), false);
        x.lay(2);
        x.give(0, 0);
        x.give(1, 1);
        long[] seeds = {0, 1, -1, 12345, Long.MIN_VALUE, Long.MAX_VALUE};
        for (long seed : seeds) {
            due("4: shuffle", x.shuffle(seed), true);
            int[] order = shuffled(6, seed);
            for (int i = 0; i < 6; i++) {
                due("4: place " + i + " of seed " + seed, x.where(order[i]), i < 2 ? 0 : i < 4 ? 1 : 10);
            }
            due("4: stock", x.about(3), 2);
        }
        due("4: begin", x.begin(0), true);
        due("4: when played", x.shuffle(1), false);
        DominoParlour y = begun(2, 10, 0, new int[][] {{0}, {2}});
        y.play(0, 0);
        due("4: when over", y.shuffle(1), false);
        due("4: nothing was done", y.where(2), 1);
    }

    private static int[] shuffled(int n, long seed) {
        int[] order = new int[n];
        for (int i = 0; i < n; i++) {
            order[i] = i;
        }
        java.math.BigInteger x = java.math.BigInteger.valueOf(seed);
        java.math.BigInteger all = java.math.BigInteger.ONE.shiftLeft(64);
        for (int i = n - 1; i >= 1; i--) {
            x = x.multiply(new java.math.BigInteger("6364136223846793005"))
                .add(new java.math.BigInteger("1442695040888963407")).mod(all);
            int j = x.shiftRight(33).mod(java.math.BigInteger.valueOf(i + 1)).intValue();
            int bone = order[i];
            order[i] = order[j];
            order[j] = bone;
        }
        return order;
    }

    private static void promise5() {
        DominoParlour x = new DominoParlour(2, 3, 10);
        due("5: no hand", x.begin(0), false);
        x.lay(1);
        due("5: nothing given", x.begin(0), false);
        x.give(0, 0);
        x.give(2, 2);
        due("5: seat 1 has none", x.begin(0), false);
        due("5: state", x.about(0), 1);
        x.give(1, 1);
        int[] noSeats = {-1, 3, 10, LOW, FAR};
        for (int seat : noSeats) {
            due("5: begin(" + seat + ")", x.begin(seat), false);
        }
        due("5: none begun", x.about(13), 0);
        due("5: begin(2)", x.begin(2), true);
        due("5: state", x.about(0), 2);
        due("5: seat on turn", x.about(1), 2);
        due("5: begun", x.about(13), 1);
        due("5: again", x.begin(1), false);
        due("5: begun", x.about(13), 1);
        x.play(2, 0);
        due("5: when over", x.begin(1), false);
        x.lay(1);
        due("5: a new one has nothing", x.begin(1), false);
        x.shuffle(4);
        due("5: shuffled", x.begin(0), true);
        due("5: begun", x.about(13), 2);
    }

    private static void promise6() {
        DominoParlour x = new DominoParlour(3, 2, 100);
        due("6: no hand", x.play(0, 0), NONE);
        x.lay(3);
        x.give(0, 4);
        due("6: laid", x.play(4, 0), NONE);
        // Top 3: 6 (0,3), 7 (1,3), 8 (2,3), 9 (3,3).
        x = begun(3, 100, 1, new int[][] {{6, 8, 9}, {4, 1, 7}});
        int[] notHeld = {6, 0, -1, 10, 28, 36, LOW, FAR};
        for (int bone : notHeld) {
            due("6: play(" + bone + ", 0)", x.play(bone, 0), NONE);
        }
        due("6: on an empty row any end", x.play(4, FAR), 0);
        due("6: row", x.row(0), 12);
        due("6: next seat", x.about(1), 0);
        due("6: (0,3) does not meet 1", x.play(6, 0), NONE);
        due("6: (2,3) does not meet 1", x.play(8, 0), NONE);
        int[] noEnds = {-1, 2, LOW, FAR};
        for (int end : noEnds) {
            due("6: play(8, " + end + ")", x.play(8, end), NONE);
        }
        due("6: (2,3) at the right", x.play(8, 1), 0);
        due("6: row(1)", x.row(1), 23);
        due("6: (0,1) at the left", x.play(1, 0), 0);
        due("6: row(0)", x.row(0), 1);
        due("6: row(2)", x.row(2), 23);
        due("6: (3,3) at the right", x.play(9, 1), 0);
        due("6: row(3)", x.row(3), 33);
        due("6: where(9)", x.where(9), 11);
        due("6: (1,3), turned, at the right: out", x.play(7, 1), 1);
        due("6: row(4)", x.row(4), 31);
        due("6: over", x.about(0), 3);
        due("6: over", x.play(6, 0), NONE);
        due("6: side", x.about(8), 1);
        due("6: points", x.about(9), 3);
        due("6: score", x.score(1), 3);
        outOfFour();
    }

    private static void outOfFour() {
        DominoParlour x = begun(3, 100, 1, new int[][] {{9, 8}, {0, 1}, {7, 6}, {2, 4}});
        due("6: (0,0)", x.play(0, 0), 0);
        due("6: (0,3)", x.play(6, 1), 0);
        due("6: pass", x.pass(), 0);
        due("6: (3,3)", x.play(9, 1), 0);
        due("6: (0,1): out", x.play(1, 0), 1);
        // Side 1 is out; side 0 holds (2,3) and (1,3), and its partner's bones count for nothing.
        due("6: side", x.about(8), 1);
        due("6: points", x.about(9), 9);
        DominoParlour y = begun(2, 1, 0, new int[][] {{5}, {0}});
        due("6: out against (0,0)", y.play(5, 0), 1);
        due("6: the side gets no points, but it's the side", y.about(8), 0);
        due("6: points", y.about(9), 0);
        due("6: nobody won", y.about(10), NONE);
        DominoParlour z = begun(2, 100, 2, new int[][] {{5}, {4}, {3}});
        due("6: out of three", z.play(3, 0), 1);
        due("6: side", z.about(8), 2);
        due("6: points", z.about(9), 7);
        due("6: score", z.score(2), 7);
    }

    private static void promise7() {
        DominoParlour x = new DominoParlour(2, 2, 10);
        due("7: no hand", x.pass(), NONE);
        x.lay(2);
        due("7: laid", x.pass(), NONE);
        x = small();
        due("7: empty row", x.pass(), NONE);
        due("7: still its turn", x.about(1), 0);
        x.play(4, 0);
        due("7: pass", x.pass(), 0);
        due("7: seat", x.about(1), 0);
        due("7: turns", x.about(7), 2);
        due("7: stuck", x.pass(), 1);
        due("7: state", x.about(0), 3);
        due("7: over", x.pass(), NONE);
        due("7: side", x.about(8), 0);
        due("7: points", x.about(9), 5);
        stuckOfThree();
        stuckOfFour();
    }

    private static void stuckOfThree() {
        // Behind (2,2): seat 0 holds (0,1), seat 1 (0,2), seat 2 (1,2).
        DominoParlour x = begun(2, 100, 0, new int[][] {{5, 1}, {3, 0}, {4, 2}});
        x.play(5, 0);
        x.pass();
        due("7: two passes of three", x.pass(), 0);
        due("7: three", x.pass(), 1);
        // Weights 1, 2, 5: seat 0 gets 7 less 1.
        due("7: side", x.about(8), 0);
        due("7: points", x.about(9), 6);
        due("7: score", x.score(0), 6);
        x = begun(2, 100, 2, new int[][] {{1, 3}, {0, 4}, {2, 5}});
        x.play(5, 0);
        x.pass();
        x.play(4, 0);
        // A play between them: passes count anew.
        due("7: pass", x.pass(), 0);
        due("7: pass", x.pass(), 0);
        due("7: stuck", x.pass(), 1);
        // Weights 3, 0, 2.
        due("7: side", x.about(8), 1);
        due("7: points", x.about(9), 5);
        x = begun(2, 100, 2, new int[][] {{1, 3}, {0, 4}, {2, 5}});
        x.play(2, 0);
        x.pass();
        x.pass();
        due("7: stuck", x.pass(), 1);
        // Weights 3, 3, 4: two have the least.
        due("7: nobody", x.about(8), NONE);
        due("7: no points", x.about(9), 0);
        due("7: score", x.score(0) + x.score(1) + x.score(2), 0);
    }

    private static void stuckOfFour() {
        DominoParlour x = begun(3, 100, 3, new int[][] {{9, 0}, {8, 7}, {6, 1}, {5, 4}});
        x.play(5, 0);
        x.pass();
        x.pass();
        x.pass();
        due("7: stuck of four", x.pass(), 1);
        // Side 0: 6 + 0 + 3 + 1 = 10; side 1: 5 + 4 + 3 = 12.
        due("7: side", x.about(8), 0);
        due("7: points", x.about(9), 2);
        due("7: score", x.score(0), 2);
        x = begun(3, 100, 3, new int[][] {{9, 0}, {8, 7}, {6, 1}, {5, 2}});
        x.play(2, 0);
        x.pass();
        x.pass();
        x.pass();
        due("7: stuck of four", x.pass(), 1);
        due("7: side 1 has 13, side 0 has 10", x.about(9), 3);
        x = begun(3, 100, 3, new int[][] {{9, 0}, {8, 4}, {6, 1}, {5, 3}});
        x.play(5, 0);
        x.pass();
        x.pass();
        x.pass();
        due("7: 10 and 10", x.pass(), 1);
        due("7: nobody", x.about(8), NONE);
    }

    private static void promise8() {
        DominoParlour x = new DominoParlour(2, 2, 5);
        due("8: no hand", x.back(), false);
        x.lay(2);
        due("8: laid", x.back(), false);
        x = begun(2, 5, 0, new int[][] {{0, 4}, {1, 5}});
        due("8: no turn", x.back(), false);
        due("8: still played", x.about(0), 2);
        x.play(4, 0);
        x.play(1, 0);
        due("8: row", x.row(0), 1);
        due("8: back", x.back(), true);
        due("8: held again", x.where(1), 1);
        due("8: row(0)", x.row(0), 12);
        due("8: row(1)", x.row(1), NONE);
        due("8: seat", x.about(1), 1);
        due("8: turns", x.about(7), 1);
        x.play(5, 1);
        due("8: back from the right", x.back(), true);
        due("8: row(0)", x.row(0), 12);
        due("8: right end", x.about(6), 2);
        x.pass();
        due("8: stuck", x.pass(), 1);
        due("8: won", x.about(10), 0);
        due("8: back of one that's over", x.back(), true);
        due("8: score", x.score(0), 0);
        due("8: not won", x.about(10), NONE);
        due("8: state", x.about(0), 2);
        due("8: seat", x.about(1), 0);
        due("8: side", x.about(8), NONE);
        due("8: points", x.about(9), 0);
        due("8: the first pass stays", x.pass(), 1);
        x.back();
        due("8: back of a pass", x.back(), true);
        due("8: passes count anew", x.pass(), 0);
        x.back();
        due("8: to the beginning", x.back(), true);
        due("8: empty", x.about(4), 0);
        due("8: ends", x.about(5), NONE);
        due("8: no more", x.back(), false);
        due("8: begun", x.about(13), 1);
        x = begun(2, 100, 0, new int[][] {{0}, {2}});
        x.play(0, 0);
        due("8: points", x.score(0), 2);
        due("8: back of out", x.back(), true);
        due("8: points go back", x.score(0), 0);
        due("8: it holds the bone", x.where(0), 0);
        x.play(0, 0);
        x.lay(1);
        due("8: not of an earlier hand", x.back(), false);
        due("8: its points stay", x.score(0), 2);
    }

    private static void promise9() {
        DominoParlour x = small();
        int[] before = {2, 0, 2, 2, 0, NONE, NONE, 0, NONE, 0, NONE, 6, 2, 1};
        for (int what = 0; what < before.length; what++) {
            due("9: about(" + what + ")", x.about(what), before[what]);
        }
        x.play(4, 0);
        x.play(1, 0);
        int[] amid = {2, 0, 2, 2, 2, 0, 2, 2, NONE, 0, NONE, 6, 2, 1};
        for (int what = 0; what < amid.length; what++) {
            due("9: amid, about(" + what + ")", x.about(what), amid[what]);
        }
        due("9: out", x.play(0, 0), 1);
        int[] after = {3, NONE, 2, 2, 3, 0, 2, 3, 0, 4, NONE, 6, 2, 1};
        for (int what = 0; what < after.length; what++) {
            due("9: over, about(" + what + ")", x.about(what), after[what]);
        }
        int[] others = {-1, 14, 15, LOW, FAR};
        for (int what : others) {
            due("9: about(" + what + ")", x.about(what), NONE);
        }
    }

    private static void promise10() {
        int[][] sides = {{2, 2}, {3, 3}, {4, 2}};
        for (int[] s : sides) {
            DominoParlour x = new DominoParlour(6, s[0], 10);
            for (int side = 0; side < 6; side++) {
                due("10: score(" + side + ") of " + s[0], x.score(side), side < s[1] ? 0 : NONE);
            }
            due("10: score(-1)", x.score(-1), NONE);
            due("10: score(low)", x.score(LOW), NONE);
            due("10: score(far)", x.score(FAR), NONE);
        }
        DominoParlour x = begun(2, 100, 1, new int[][] {{5}, {0}});
        x.play(0, 0);
        givenAndBegun(x, 1, new int[][] {{4}, {0}});
        x.play(0, 0);
        givenAndBegun(x, 0, new int[][] {{0}, {2}});
        x.play(0, 0);
        due("10: points of two hands", x.score(1), 7);
        due("10: of one", x.score(0), 2);
    }

    private static void promise11() {
        DominoParlour x = new DominoParlour(6, 2, 10);
        due("11: no hand", x.hand(0, 0), NONE);
        x.lay(4);
        due("11: nothing given", x.hand(0, 0), NONE);
        x.give(1, 27);
        x.give(1, 3);
        x.give(1, 14);
        int[] rising = {3, 14, 27, NONE, NONE};
        for (int k = 0; k < rising.length; k++) {
            due("11: hand(1, " + k + ")", x.hand(1, k), rising[k]);
        }
        int[] none = {-1, LOW, FAR};
        for (int k : none) {
            due("11: hand(1, " + k + ")", x.hand(1, k), NONE);
            due("11: hand(" + k + ", 0)", x.hand(k, 0), NONE);
        }
        due("11: hand(2, 0)", x.hand(2, 0), NONE);
        due("11: hand(10, 0) is no seat", x.hand(10, 0), NONE);
        DominoParlour y = small();
        y.play(4, 0);
        due("11: what is played is not held", y.hand(0, 1), NONE);
        due("11: what stays", y.hand(0, 0), 0);
    }

    private static void promise12() {
        DominoParlour x = new DominoParlour(2, 2, 10);
        due("12: no hand", x.where(0), NONE);
        x.lay(1);
        due("12: the stock", x.where(0), 10);
        x = small();
        x.play(4, 0);
        int[] places = {0, 1, 10, 10, 11, 1};
        for (int bone = 0; bone < places.length; bone++) {
            due("12: where(" + bone + ")", x.where(bone), places[bone]);
        }
        int[] none = {-1, 6, 28, 32, LOW, FAR};
        for (int bone : none) {
            due("12: where(" + bone + ")", x.where(bone), NONE);
        }
    }

    private static void promise13() {
        DominoParlour x = small();
        due("13: empty", x.row(0), NONE);
        x.play(4, 0);
        x.play(5, 1);
        x.pass();
        x.play(1, 0);
        int[] row = {1, 12, 22, NONE};
        for (int i = 0; i < row.length; i++) {
            due("13: row(" + i + ")", x.row(i), row[i]);
        }
        int[] none = {-1, LOW, FAR, FAR - 27, -28};
        for (int i : none) {
            due("13: row(" + i + ")", x.row(i), NONE);
        }
        longRow();
        rowOfALaterHand();
    }

    private static void rowOfALaterHand() {
        DominoParlour x = new DominoParlour(6, 2, 1000);
        for (int hand = 0; hand < 60; hand++) {
            givenAndBegun(x, 0, new int[][] {{1}, {0}});
            due("13: play", x.play(1, 0), 1);
            due("13: row(0) of hand " + hand, x.row(0), 1);
            due("13: bones in the row of hand " + hand, x.about(4), 1);
        }
    }

    private static void longRow() {
        // One seat lays all its bones at the left, the other one passes.
        int[] chain = {0, 1, 4, 8, 13, 19, 26, 21};
        int[] row = {6, 65, 54, 43, 32, 21, 10, 0};
        for (int end = 0; end < 2; end++) {
            DominoParlour x = begun(6, 100, 0, new int[][] {chain, {2, 5, 9, 14, 20, 27, 3, 6}});
            for (int i = 0; i < chain.length; i++) {
                due("13: play", x.play(chain[i], end), i < 7 ? 0 : 1);
                x.pass();
            }
            for (int i = 0; i < row.length; i++) {
                int mirrored = row[7 - i] % 10 * 10 + row[7 - i] / 10;
                due("13: long row(" + i + ")", x.row(i), end == 0 ? row[i] : mirrored);
            }
        }
    }

    private static void promise14() {
        DominoParlour x = small();
        due("14: none", x.turn(0, 0), NONE);
        x.play(4, 1);
        x.pass();
        x.pass();
        x.back();
        x.back();
        x.play(5, 1);
        x.pass();
        x.play(1, 0);
        int[][] turns = {{0, 4, 0}, {1, 5, 1}, {0, NONE, NONE}, {1, 1, 0}};
        for (int t = 0; t < turns.length; t++) {
            for (int what = 0; what < 3; what++) {
                due("14: turn(" + t + ", " + what + ")", x.turn(t, what), turns[t][what]);
            }
            due("14: turn(" + t + ", 3)", x.turn(t, 3), NONE);
            due("14: turn(" + t + ", -1)", x.turn(t, -1), NONE);
        }
        int[] none = {-1, 4, LOW, FAR};
        for (int t : none) {
            due("14: turn(" + t + ", 0)", x.turn(t, 0), NONE);
            due("14: turn(0, " + t + ")", x.turn(0, t), NONE);
        }
    }

    private static void promise15() {
        DominoParlour x = new DominoParlour(2, 2, 10);
        due("15: no hand", x.deals(0), NONE);
        x.lay(2);
        due("15: laid", x.deals(0), NONE);
        x = small();
        due("15: 4 over 2", x.deals(0), 6);
        int[] none = {-1, 2, 10, LOW, FAR};
        for (int seat : none) {
            due("15: deals(" + seat + ")", x.deals(seat), NONE);
        }
        x.play(4, 0);
        due("15: 3 over 1", x.deals(1), 3);
        due("15: its own play shows it nothing", x.deals(0), 6);
        x.pass();
        due("15: a false pass", x.deals(0), 0);
        due("15: its own false pass", x.deals(1), 3);
        x.pass();
        due("15: when it's over", x.deals(0), 0);
        // Seat 0 passed at 1 and 2: of (0,0), (1,1) and (0,2) it can hold (0,0) alone.
        due("15: seat 0's pass", x.deals(1), 1);
        x.back();
        due("15: the pass is undone", x.deals(1), 3);
        manyDeals();
        passesWhenever();
    }

    private static void manyDeals() {
        // Before any pass: the unseen bones, over each other seat's number and the rest.
        for (int top = 2; top <= 6; top++) {
            for (int seats = 2; seats <= 4; seats++) {
                DominoParlour x = new DominoParlour(top, seats, 10);
                int most = x.about(11) / seats;
                for (int h = 1; h <= most; h++) {
                    dealsAtFirst(top, seats, h);
                }
            }
        }
    }

    private static void dealsAtFirst(int top, int seats, int h) {
        DominoParlour x = new DominoParlour(top, seats, 10);
        x.lay(h);
        x.shuffle(77);
        x.begin(0);
        long want = multinomial(x.about(11) - h, seats - 1, h);
        for (int seat = 0; seat < seats; seat++) {
            due("15: deals(" + seat + ") of " + seats + " with " + h, x.deals(seat), want);
        }
    }

    private static long multinomial(long bones, long others, long each) {
        java.math.BigInteger n = factorial(bones);
        for (long k = 0; k < others; k++) {
            n = n.divide(factorial(each));
        }
        return n.divide(factorial(bones - others * each)).longValueExact();
    }

    private static java.math.BigInteger factorial(long n) {
        java.math.BigInteger f = java.math.BigInteger.ONE;
        for (long k = 2; k <= n; k++) {
            f = f.multiply(java.math.BigInteger.valueOf(k));
        }
        return f;
    }

    private static void passesWhenever() {
        // Top 3, seat 1 passes at (0,0), then both go on to other ends: what it showed stays.
        DominoParlour x = begun(3, 100, 0, new int[][] {{0, 6, 9}, {2, 4, 5}});
        x.play(0, 0);
        due("15: pass", x.pass(), 0);
        x.play(6, 0);
        x.pass();
        x.play(9, 0);
        // Seat 0 sees (0,0), (0,3), (3,3). Without 0 and 3: (1,1), (1,2), (2,2), all three of them.
        due("15: passes at 0 and at 3", x.deals(0), 1);
        x.back();
        due("15: passes at 0 and at 3", x.deals(0), 1);
        x.back();
        // Without 0 alone: (1,1), (1,2), (2,2), (1,3), (2,3), three of five.
        due("15: passes at 0", x.deals(0), 10);
    }

    private static void promise16() {
        DominoParlour x = new DominoParlour(2, 2, 10);
        due("16: no hand", x.chance(0, 0, 0), NONE);
        x.lay(2);
        due("16: laid", x.chance(0, 0, 10), NONE);
        x = small();
        due("16: at seat 1", x.chance(0, 1, 1), 3);
        due("16: in the stock", x.chance(0, 1, 10), 3);
        due("16: where it can't be", x.chance(0, 1, 0), 0);
        due("16: in the row", x.chance(0, 1, 11), 0);
        due("16: its own", x.chance(0, 0, 0), 6);
        due("16: its own, elsewhere", x.chance(0, 0, 1), 0);
        due("16: its own, in the stock", x.chance(0, 0, 10), 0);
        int[] noPlaces = {-1, 2, 3, 9, 12, LOW, FAR};
        for (int place : noPlaces) {
            due("16: place " + place, x.chance(0, 1, place), NONE);
            due("16: own bone, place " + place, x.chance(0, 0, place), NONE);
        }
        int[] noBones = {-1, 6, 28, 33, LOW, FAR};
        for (int bone : noBones) {
            due("16: bone " + bone, x.chance(0, bone, 1), NONE);
        }
        int[] noSeats = {-1, 2, 10, LOW, FAR};
        for (int seat : noSeats) {
            due("16: seat " + seat, x.chance(seat, 1, 1), NONE);
        }
        x.play(4, 0);
        due("16: the row's", x.chance(1, 4, 11), 3);
        due("16: the row's, elsewhere", x.chance(1, 4, 10), 0);
        due("16: its own play", x.chance(0, 4, 0), 0);
        due("16: one of three", x.chance(1, 0, 0), 1);
        due("16: two of three", x.chance(1, 0, 10), 2);
        x.pass();
        x.pass();
        due("16: over, (0,0) at seat 0", x.chance(1, 0, 0), 1);
        due("16: over, (1,1) at seat 0", x.chance(1, 2, 0), 0);
        due("16: over, (1,1) in the stock", x.chance(1, 2, 10), 1);
        due("16: over, no deal at all", x.chance(0, 4, 11), 0);
        chanceWithoutStock();
    }

    private static void chanceWithoutStock() {
        DominoParlour x = begun(2, 10, 0, new int[][] {{0, 1, 2}, {3, 4, 5}});
        due("16: all are at seat 1", x.chance(0, 5, 1), 1);
        due("16: none is in the stock", x.chance(0, 5, 10), 0);
        // Three seats: each unseen bone of six is at one of three places.
        DominoParlour y = begun(3, 10, 0, new int[][] {{0, 1, 2}, {3, 4, 5}, {6, 7, 8}});
        long sum = y.chance(0, 9, 1) + y.chance(0, 9, 2) + y.chance(0, 9, 10);
        due("16: deals", y.deals(0), 140);
        due("16: of seven to three", y.chance(0, 9, 1), 60);
        due("16: of seven to one", y.chance(0, 9, 10), 20);
        due("16: all places", sum, 140);
    }

    private static void promise17() {
        DominoParlour x = new DominoParlour(2, 2, 10);
        due("17: no hand", x.held(0, 0), NONE);
        x.lay(2);
        due("17: laid", x.held(0, 0), NONE);
        x = small();
        // (1,2) leaves only (0,0), which it holds; (0,0) leaves (1,1) and (2,2), two of two.
        due("17: on an empty row", x.held(4, 0), 0);
        due("17: on an empty row any end", x.held(0, FAR), 1);
        int[] none = {1, 2, -1, 6, 36, LOW, FAR};
        for (int bone : none) {
            due("17: held(" + bone + ", 0)", x.held(bone, 0), NONE);
        }
        x.play(4, 0);
        due("17: (0,1) at the left", x.held(1, 0), 1);
        due("17: (0,1) at the right", x.held(1, 1), NONE);
        due("17: (2,2) at the right", x.held(5, 1), 1);
        due("17: (2,2) at the left", x.held(5, 0), NONE);
        int[] noEnds = {-1, 2, LOW, FAR};
        for (int end : noEnds) {
            due("17: held(1, " + end + ")", x.held(1, end), NONE);
        }
        due("17: nothing was done", x.about(7), 1);
        x.pass();
        x.pass();
        due("17: over", x.held(0, 0), NONE);
        heldOfThree();
    }

    private static void heldOfThree() {
        // Seat 2 is on turn, seat 0 is next: 10 bones less 2 held are 8: 2, 2 and 4.
        DominoParlour x = begun(3, 10, 2, new int[][] {{0, 1}, {3, 5}, {9, 6}});
        due("17: deals", x.deals(2), 420);
        // Behind (3,3) seat 0 has no 3: not (1,3), (2,3): 6 over 2 times 6 over 2.
        due("17: (3,3)", x.held(9, 0), 225);
        // Behind (0,3) no 0 either: (1,1), (1,2), (2,2) stay: 3 times 15.
        due("17: (0,3)", x.held(6, 0), 45);
        x.play(9, 0);
        x.pass();
        x.pass();
        // Both showed no 3: seat 0 has no 0 behind (0,3): of (1,1), (1,2), (2,2) two, seat 1 two of the four others.
        due("17: with passes shown", x.held(6, 0), 18);
        due("17: the last bone of its hand", x.play(6, 0), 1);
    }

    private static void promise18() {
        DominoParlour x = new DominoParlour(2, 2, 10);
        due("18: no hand", x.safest(), NONE);
        x.lay(2);
        due("18: laid", x.safest(), NONE);
        x = small();
        due("18: (0,0) on an empty row", x.safest(), 0);
        x.play(4, 0);
        due("18: of two the least", x.safest(), 2);
        x.pass();
        due("18: none for seat 0", x.safest(), NONE);
        x.pass();
        due("18: over", x.safest(), NONE);
        x = begun(3, 10, 2, new int[][] {{0, 1}, {3, 5}, {6, 9}});
        due("18: (3,3) holds more", x.safest(), 18);
        // Row (1,1), seat 1 has (0,1) at both ends, and (1,2): the same counts, the left end is less.
        x = begun(2, 10, 0, new int[][] {{2, 0}, {1, 5}});
        x.play(2, 0);
        due("18: both ends alike", x.safest(), 2);
        // Row (0,1): seat 1's (0,1)s are gone; (0,0) at the left, (1,1) at the right.
        x = begun(2, 10, 0, new int[][] {{1, 4}, {0, 5}});
        x.play(1, 0);
        due("18: one play alone", x.safest(), 0);
        // Row (0,1), (1,1) at the right: the end is told.
        x = begun(2, 10, 0, new int[][] {{1, 4}, {2, 5}});
        x.play(1, 0);
        due("18: at the right", x.safest(), 5);
        due("18: nothing was done", x.about(7), 1);
    }

    private static void promise19() {
        DominoParlour x = new DominoParlour(2, 2, 10);
        due("19: no hand", x.look(1, 0), -100000);
        x.lay(2);
        due("19: laid", x.look(1, 0), -100000);
        x = small();
        int[] noTurns = {0, -1, 5, LOW, FAR};
        for (int n : noTurns) {
            due("19: look(" + n + ", 0)", x.look(n, 0), -100000);
        }
        int[] noWhats = {-1, 3, LOW, FAR};
        for (int what : noWhats) {
            due("19: look(1, " + what + ")", x.look(1, what), -100000);
        }
        // (1,2) leaves 0 against 5; (0,0) leaves 3 against 5.
        due("19: worth of one turn", x.look(1, 0), 5);
        due("19: play", x.look(1, 1), 8);
        due("19: turns", x.look(1, 2), 2);
        // Behind (0,0) seat 1 has (0,1) at both ends: 4 - 3 = 1; behind (1,2) it has (0,1): 4, or (2,2): 1.
        due("19: worth of two turns", x.look(2, 0), 1);
        due("19: the first that has it", x.look(2, 1), 0);
        due("19: two, with two and two", x.look(2, 2), 6);
        due("19: nothing was done", x.about(7), 0);
        due("19: nothing was done", x.about(1), 0);
        lookAtTheEnd();
        lookWithPasses();
    }

    private static void lookAtTheEnd() {
        DominoParlour x = begun(2, 100, 0, new int[][] {{0}, {5}, {4}, {3}});
        due("19: out at once, the partner's bone aside", x.look(1, 0), 1006);
        due("19: no turn behind it", x.look(4, 2), 1);
        due("19: play", x.look(4, 1), 0);
        due("19: no score", x.score(0), 0);
        due("19: still played", x.about(0), 2);
        x.play(0, 0);
        due("19: over", x.look(1, 0), -100000);
        x = begun(2, 100, 0, new int[][] {{0}, {5}});
        x.play(0, 0);
        x.back();
        due("19: out", x.look(1, 0), 1004);
        x = begun(2, 100, 0, new int[][] {{0, 5}, {1, 2}});
        x.play(0, 0);
        x.play(1, 0);
        // Row (1,0) (0,0); seat 0 holds (2,2) and passes, seat 1 goes out with (1,1) against 4.
        due("19: it passes", x.look(1, 1), NONE);
        due("19: 2 less 4", x.look(1, 0), -2);
        due("19: the other side is out", x.look(2, 0), -1004);
        due("19: turns", x.look(3, 2), 2);
        x = begun(2, 100, 0, new int[][] {{5}, {0}});
        due("19: out without points", x.look(1, 0), 1000);
    }

    private static void lookWithPasses() {
        // Row (2,2) and nobody has a 2: stuck behind all passes, also those that were made.
        DominoParlour x = begun(3, 100, 0, new int[][] {{5, 0}, {1, 2}, {9, 7}});
        x.play(5, 0);
        // Seat 1 holds 3, against 0 and 10.
        due("19: two passes", x.look(2, 0), 7);
        // Weights 0, 3, 10: side 0 gets 13.
        due("19: stuck, to another side", x.look(3, 0), -1013);
        due("19: turns", x.look(4, 2), 3);
        x.pass();
        due("19: one pass was made", x.look(2, 0), -1013);
        x.pass();
        due("19: stuck, to its own", x.look(1, 0), 1013);
        // Weights 3 and 3: nobody.
        x = begun(3, 100, 0, new int[][] {{5, 6}, {7, 0}, {1, 2}});
        x.play(5, 0);
        x.pass();
        x.pass();
        due("19: to nobody", x.look(1, 0), 0);
        due("19: passes", x.look(1, 1), NONE);
        // A false pass is never looked at: who can play does.
        x = small();
        x.play(4, 0);
        x.pass();
        x.back();
        due("19: plays alone", x.look(1, 2), 2);
    }

    private static void promise20() {
        DominoParlour x = new DominoParlour(2, 2, 10);
        due("20: no hand", x.judge(), NONE);
        x = small();
        x.play(4, 0);
        x.pass();
        due("20: not over", x.judge(), NONE);
        x.pass();
        due("20: turn 1 was false", x.judge(), 1);
        x.back();
        due("20: not over any more", x.judge(), NONE);
        x = begun(2, 100, 0, new int[][] {{0, 5}, {1, 2}});
        x.play(0, 0);
        x.play(1, 0);
        due("20: a true pass", x.pass(), 0);
        due("20: out", x.play(2, 0), 1);
        due("20: none was false", x.judge(), NONE);
        x.back();
        due("20: a false one behind a true one", x.pass(), 1);
        due("20: turn 3", x.judge(), 3);
        x.back();
        x.back();
        x.back();
        due("20: two false ones", x.pass(), 0);
        x.pass();
        due("20: only (0,0) lies: seat 0's pass is true", x.judge(), 1);
        x.lay(1);
        due("20: a new hand", x.judge(), NONE);
        // The left end alone, and the right end alone, make a pass false.
        for (int bone = 0; bone < 6; bone += 5) {
            x = begun(2, 100, 0, new int[][] {{3, 2}, {bone, 4 - bone / 5 * 3}});
            x.play(3, 0);
            x.pass();
            x.pass();
            due("20: one end is enough", x.judge(), 1);
        }
    }

    public static void main(String[] args) {
        promise1();
        promise2();
        promise3();
        promise4();
        promise5();
        promise6();
        promise7();
        promise8();
        promise9();
        promise10();
        promise11();
        promise12();
        promise13();
        promise14();
        promise15();
        promise16();
        promise17();
        promise18();
        promise19();
        promise20();
        Kit.end("promises");
    }
}
