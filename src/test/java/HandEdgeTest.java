/** The bounds that the document names for the making of hands and turns: terms 1, promises 1 to 8. */
public final class HandEdgeTest {
    private static final int NONE = Kit.NONE;
    private static final int FAR = Kit.FAR;
    private static final int LOW = Kit.LOW;

    /** All 28 bones so that each meets the one before it, and the row that they make to the right. */
    private static final int[] TRAIL = {
        0, 1, 2, 4, 3, 6, 7, 11, 10, 15, 16, 22, 23, 5, 8, 9, 13, 12, 17, 18, 24, 25, 14, 19, 20, 26, 27, 21
    };
    private static final int[] TRAIL_ROW = {
        0, 1, 11, 12, 20, 3, 31, 14, 40, 5, 51, 16, 62, 22, 23, 33, 34, 42, 25, 53, 36, 64, 44, 45, 55, 56, 66, 60
    };

    private static void due(String call, long got, long want) {
        Kit.due(call, got, want);
    }

    private static void due(String call, boolean got, boolean want) {
        Kit.due(call, got, want);
    }

    private static DominoParlour begun(int top, int leader, int[]... hands) {
        return Kit.begun(top, 100, leader, hands);
    }

    private static int[] bones(int... bones) {
        return bones;
    }

    // ---- Terms 1

    private static void numbering() {
        for (int b = 0; b <= 6; b++) {
            for (int a = 0; a <= b; a++) {
                int bone = b * (b + 1) / 2 + a;
                DominoParlour x = begun(6, 0, bones(bone), bones(bone == 0 ? 1 : 0));
                due("play(" + bone + ", 0)", x.play(bone, 0), 1);
                due("row(0) of bone " + bone, x.row(0), 10 * a + b);
                due("left of bone " + bone, x.about(5), a);
                due("right of bone " + bone, x.about(6), b);
            }
        }
    }

    private static void weights() {
        for (int b = 0; b <= 6; b++) {
            for (int a = 0; a <= b; a++) {
                int bone = b * (b + 1) / 2 + a;
                int leading = bone == 0 ? 1 : 0;
                DominoParlour x = begun(6, 0, bones(leading), bones(bone));
                x.play(leading, 0);
                due("weight of bone " + bone, x.about(9), a + b);
            }
        }
    }

    private static void partners() {
        // Weights 0, 4, 3, 1 (bones 0, 5, 4, 1): the seats of the other side alone are counted.
        int[] points = {5, 3, 5, 3};
        int[] bones = {0, 5, 4, 1};
        for (int seat = 0; seat < 4; seat++) {
            DominoParlour x = begun(2, seat, bones(0), bones(5), bones(4), bones(1));
            due("play of seat " + seat, x.play(bones[seat], 0), 1);
            due("side of seat " + seat, x.about(8), seat % 2);
            due("points of seat " + seat, x.about(9), points[seat]);
            due("score of side " + seat % 2, x.score(seat % 2), points[seat]);
            due("score of the other side", x.score(1 - seat % 2), 0);
        }
    }

    private static void eachItsOwn() {
        int[] bones = {1, 5, 4};
        int[] points = {7, 4, 5};
        for (int seat = 0; seat < 3; seat++) {
            DominoParlour x = begun(2, seat, bones(1), bones(5), bones(4));
            x.play(bones[seat], 0);
            due("side of seat " + seat, x.about(8), seat);
            due("points of seat " + seat, x.about(9), points[seat]);
            due("score of seat " + seat, x.score(seat), points[seat]);
        }
        for (int seat = 0; seat < 2; seat++) {
            DominoParlour x = begun(2, seat, bones(1), bones(5));
            x.play(bones[seat], 0);
            due("side of seat " + seat + " of two", x.about(8), seat);
        }
    }

    private static void seatsInOrder() {
        for (int seats = 2; seats <= 4; seats++) {
            for (int leader = 0; leader < seats; leader++) {
                DominoParlour x = new DominoParlour(6, seats, 100);
                x.lay(3);
                x.shuffle(8);
                x.begin(leader);
                x.play(x.hand(leader, 0), 0);
                for (int k = 1; k < seats; k++) {
                    due("seat " + k + " behind " + leader + " of " + seats, x.about(1), (leader + k) % seats);
                    x.pass();
                }
                due("seat of turn 1", x.turn(1, 0), (leader + 1) % seats);
            }
        }
    }

    private static void leftMeets() {
        // Row (1,2): to the left go (0,1) as 01, (1,3) as 31, (1,1) as 11.
        int[][] plays = {{1, 1}, {7, 31}, {2, 11}};
        for (int[] p : plays) {
            DominoParlour x = begun(3, 0, bones(4, 9), bones(p[0], 6));
            x.play(4, 0);
            due("play(" + p[0] + ", 0)", x.play(p[0], 0), 0);
            due("row(0)", x.row(0), p[1]);
            due("row(1)", x.row(1), 12);
            due("left", x.about(5), p[1] / 10);
            due("right", x.about(6), 2);
        }
    }

    private static void rightMeets() {
        // Row (1,2): to the right go (0,2) as 20, (2,3) as 23, (2,2) as 22.
        int[][] plays = {{3, 20}, {8, 23}, {5, 22}};
        for (int[] p : plays) {
            DominoParlour x = begun(3, 0, bones(4, 9), bones(p[0], 6));
            x.play(4, 0);
            due("play(" + p[0] + ", 1)", x.play(p[0], 1), 0);
            due("row(1)", x.row(1), p[1]);
            due("row(0)", x.row(0), 12);
            due("left", x.about(5), 1);
            due("right", x.about(6), p[1] % 10);
        }
    }

    private static void oneBoneAtBothEnds() {
        // Row (0,0), (0,2): ends 0 and 2, so that (0,1) meets the left one alone.
        DominoParlour x = begun(2, 0, bones(0, 1), bones(3, 5));
        x.play(0, 0);
        x.play(3, 1);
        due("the wrong end", x.play(1, 1), NONE);
        due("the right one", x.play(1, 0), 1);
        // Row (1,1): (1,2) goes to either end.
        for (int end = 0; end < 2; end++) {
            x = begun(2, 0, bones(2, 0), bones(4, 5));
            x.play(2, 0);
            due("play(4, " + end + ")", x.play(4, end), 0);
            due("row(0)", x.row(0), end == 0 ? 21 : 11);
            due("row(1)", x.row(1), end == 0 ? 11 : 12);
        }
    }

    private static void passWhoCanPlay() {
        DominoParlour x = Kit.amid();
        due("seat 1 could play", x.safest() != NONE, true);
        due("and passes", x.pass(), 0);
        due("its turn is told", x.turn(1, 0), 1);
        due("as a pass", x.turn(1, 1), NONE);
    }

    private static void stuckBehindAllSeats() {
        for (int seats = 2; seats <= 4; seats++) {
            for (int leader = 0; leader < seats; leader++) {
                DominoParlour x = new DominoParlour(6, seats, 100);
                x.lay(3);
                x.shuffle(8);
                x.begin(leader);
                x.play(x.hand(leader, 0), 0);
                Kit.passes(x, seats - 1);
                due("not yet", x.about(0), 2);
                due("the last of " + seats + " passes", x.pass(), 1);
                due("stuck", x.about(0), 3);
            }
        }
    }

    private static void aPlayBetweenPasses() {
        // Three seats: two pass, the third plays, so that three more have to pass.
        DominoParlour x = begun(3, 0, bones(0, 1, 2), bones(3, 5, 9), bones(6, 7, 8));
        x.play(0, 0);
        Kit.passes(x, 2);
        due("play", x.play(1, 0), 0);
        Kit.passes(x, 2);
        due("the third", x.pass(), 1);
        due("turns", x.about(7), 7);
    }

    private static void outTakesAllOthers() {
        // Seat 2 goes out, others hold (2,2) and (1,1); (0,1), (0,2) and (1,2) in the stock don't count.
        DominoParlour x = begun(2, 2, bones(5), bones(2), bones(0));
        due("out", x.play(0, 0), 1);
        due("4 and 2", x.about(9), 6);
        due("score", x.score(2), 6);
    }

    private static void stuckLeastTakes() {
        // Seat 1 leads (2,2) and holds (0,0) then: weights 3, 0, 6.
        DominoParlour x = begun(3, 1, bones(1, 2), bones(5, 0), bones(7, 3));
        x.play(5, 0);
        Kit.passes(x, 2);
        due("stuck", x.pass(), 1);
        due("side", x.about(8), 1);
        due("3 and 6 less 0", x.about(9), 9);
        due("score", x.score(1), 9);
        // Seat 0 leads (2,2) and holds (0,1) then: weights 1, 3, 6.
        x = begun(3, 0, bones(5, 1), bones(4, 0), bones(7, 3));
        x.play(5, 0);
        Kit.passes(x, 2);
        due("stuck", x.pass(), 1);
        due("3 and 6 less 1", x.about(9), 8);
        due("side", x.about(8), 0);
    }

    private static void stuckTwoHaveTheLeast() {
        // Seat 0 leads (2,2): weights 3, 3, 7.
        DominoParlour x = begun(3, 0, bones(5, 6), bones(1, 2), bones(7, 4));
        x.play(5, 0);
        Kit.passes(x, 2);
        due("stuck", x.pass(), 1);
        due("nobody", x.about(8), NONE);
        due("nothing", x.about(9), 0);
        due("scores", x.score(0) + x.score(1) + x.score(2), 0);
        // The same of the last two: weights 7, 3, 3.
        x = begun(3, 2, bones(7, 4), bones(1, 2), bones(5, 6));
        x.play(5, 0);
        Kit.passes(x, 2);
        due("stuck", x.pass(), 1);
        due("nobody", x.about(8), NONE);
    }

    private static void stuckAllHaveTheLeast() {
        // Weights 4, 4, 4: (1,3), (0,1) with (0,3), (1,1) with (0,2).
        DominoParlour x = begun(3, 0, bones(8, 7), bones(1, 6), bones(2, 3));
        x.play(8, 0);
        Kit.passes(x, 2);
        due("stuck", x.pass(), 1);
        due("nobody", x.about(8), NONE);
        due("nothing", x.about(9), 0);
        // Two seats alike: (0,0), (1,1) against (0,2).
        x = begun(2, 0, bones(5, 3), bones(0, 2));
        x.play(5, 0);
        Kit.passes(x, 1);
        due("stuck of two", x.pass(), 1);
        due("nobody", x.about(8), NONE);
    }

    private static void stuckTwoHaveTheMost() {
        // Weights 4, 4, 0: who has the least is alone. Then 1, 4, 4.
        DominoParlour x = begun(3, 2, bones(1, 6), bones(2, 3), bones(9, 0));
        x.play(9, 0);
        Kit.passes(x, 2);
        due("stuck", x.pass(), 1);
        due("side", x.about(8), 2);
        due("points", x.about(9), 8);
        x = begun(3, 0, bones(9, 1), bones(7, 0), bones(2, 3));
        x.play(9, 0);
        Kit.passes(x, 2);
        due("stuck", x.pass(), 1);
        due("side", x.about(8), 0);
        due("points", x.about(9), 7);
    }

    private static void stuckBySides() {
        // Seat 1 leads (2,2). Seats hold 1, 2, 9, 8: sides 10 and 10.
        DominoParlour x = begun(3, 1, bones(1, 0), bones(5, 3), bones(9, 6), bones(8, 4));
        x.play(5, 0);
        Kit.passes(x, 3);
        due("stuck", x.pass(), 1);
        due("10 and 10", x.about(8), NONE);
        // Seats hold 1, 2, 9, 7: seat 0 has the least, but its side has not.
        x = begun(3, 1, bones(1, 0), bones(5, 3), bones(9, 6), bones(8, 2));
        x.play(5, 0);
        Kit.passes(x, 3);
        due("stuck", x.pass(), 1);
        due("side 1 has 9", x.about(8), 1);
        due("10 less 9", x.about(9), 1);
        due("score", x.score(1), 1);
    }

    private static void wonAtTheTarget() {
        // Seat 0 goes out against (1,1): 2 points.
        int[][] targets = {{1, 0}, {2, 0}, {3, NONE}};
        for (int[] t : targets) {
            DominoParlour x = Kit.begun(2, t[0], 0, new int[][] {{0}, {2}});
            x.play(0, 0);
            due("winner at target " + t[0], x.about(10), t[1]);
        }
    }

    private static void wonByManyHands() {
        DominoParlour x = Kit.begun(2, 4, 0, new int[][] {{0}, {2}});
        x.play(0, 0);
        Kit.givenAndBegun(x, 1, new int[][] {{4}, {0}});
        x.play(0, 0);
        due("2 and 3 of 4", x.about(10), NONE);
        Kit.givenAndBegun(x, 1, new int[][] {{1}, {0}});
        x.play(0, 0);
        due("3 and 1 are 4", x.about(10), 1);
        due("score of the winner", x.score(1), 4);
        due("score of the other", x.score(0), 2);
    }

    // ---- Promise 1

    private static void topIsHeld() {
        int[][] sizes = {{LOW, 6}, {-1, 6}, {0, 6}, {1, 6}, {2, 6}, {3, 10}, {4, 15}, {5, 21}, {6, 28}, {7, 28}, {FAR, 28}};
        for (int[] s : sizes) {
            DominoParlour x = new DominoParlour(s[0], 2, 10);
            due("bones of top " + s[0], x.about(11), s[1]);
            due("lay", x.lay(1), s[1] - 2);
            due("the last bone", x.where(s[1] - 1), 10);
            due("no bone behind it", x.where(s[1]), NONE);
        }
    }

    private static void seatsAreHeld() {
        int[][] seats = {{LOW, 2}, {-1, 2}, {0, 2}, {1, 2}, {2, 2}, {3, 3}, {4, 4}, {5, 4}, {6, 4}, {FAR, 4}};
        for (int[] s : seats) {
            DominoParlour x = new DominoParlour(6, s[0], 10);
            due("seats of " + s[0], x.about(12), s[1]);
            x.lay(1);
            due("the last seat", x.give(s[1] - 1, 0), 1);
            due("no seat behind it", x.give(s[1], 1), NONE);
        }
    }

    private static void targetIsOneAtLeast() {
        int[] targets = {LOW, -1, 0, 1};
        for (int target : targets) {
            DominoParlour x = new DominoParlour(2, 2, target);
            due("a new match is not won", x.about(10), NONE);
            Kit.givenAndBegun(x, 1, new int[][] {{0}, {5}});
            due("out against (0,0)", x.play(5, 0), 1);
            due("0 points are too few", x.about(10), NONE);
            Kit.givenAndBegun(x, 1, new int[][] {{1}, {5}});
            due("out against (0,1)", x.play(5, 0), 1);
            due("1 point is enough for target " + target, x.about(10), 1);
        }
    }

    private static void targetIsAThousandAtMost() {
        // 83 hands of 12 points are 996; 3 more are 999, and 1 more 1,000.
        int[] targets = {999, 1000, 1001, FAR};
        for (int target : targets) {
            DominoParlour x = new DominoParlour(6, 2, target);
            for (int i = 0; i < 83; i++) {
                Kit.givenAndBegun(x, 0, new int[][] {{0}, {27}});
                x.play(0, 0);
            }
            due("996 of " + target, x.about(10), NONE);
            Kit.givenAndBegun(x, 0, new int[][] {{0}, {4}});
            x.play(0, 0);
            due("999 of " + target, x.about(10), target == 999 ? 0 : NONE);
            if (target > 999) {
                Kit.givenAndBegun(x, 0, new int[][] {{0}, {1}});
                x.play(0, 0);
                due("1,000 of " + target, x.about(10), 0);
                due("score", x.score(0), 1000);
            }
        }
    }

    private static void newHasNoHand() {
        DominoParlour x = new DominoParlour(6, 4, 100);
        due("about(0)", x.about(0), 0);
        due("where(0)", x.where(0), NONE);
        due("hand(0, 0)", x.hand(0, 0), NONE);
        due("row(0)", x.row(0), NONE);
        due("turn(0, 0)", x.turn(0, 0), NONE);
        due("deals(0)", x.deals(0), NONE);
        due("begun", x.about(13), 0);
    }

    private static void newHasNoScores() {
        for (int seats = 2; seats <= 4; seats++) {
            DominoParlour x = new DominoParlour(6, seats, 1);
            for (int side = 0; side < (seats == 4 ? 2 : seats); side++) {
                due("score(" + side + ") of " + seats, x.score(side), 0);
            }
            due("nobody won", x.about(10), NONE);
        }
    }

    // ---- Promise 2

    private static void layTellsTheStock() {
        for (int top = 2; top <= 6; top++) {
            for (int seats = 2; seats <= 4; seats++) {
                int all = (top + 1) * (top + 2) / 2;
                for (int h = 1; h * seats <= all; h++) {
                    DominoParlour x = new DominoParlour(top, seats, 10);
                    due("lay(" + h + ") of " + top + ", " + seats, x.lay(h), all - h * seats);
                    due("all are in the stock at first", x.about(3), all);
                    due("laid", x.about(0), 1);
                    due("h", x.about(2), h);
                }
            }
        }
    }

    private static void layInPlaceOfOneLaid() {
        DominoParlour x = Kit.laid();
        due("lay(3)", x.lay(3), 0);
        due("h", x.about(2), 3);
        due("what was given went back", x.where(4), 10);
        due("stock", x.about(3), 6);
        due("hand(0, 0)", x.hand(0, 0), NONE);
        due("give", x.give(0, 4), 1);
    }

    private static void layInPlaceOfOneOver() {
        DominoParlour x = Kit.over();
        due("lay(1)", x.lay(1), 4);
        due("laid", x.about(0), 1);
        due("stock", x.about(3), 6);
        due("row", x.about(4), 0);
        due("left", x.about(5), NONE);
        due("right", x.about(6), NONE);
        due("turns", x.about(7), 0);
        due("side", x.about(8), NONE);
        due("points", x.about(9), 0);
        due("the score stays", x.score(0), 5);
        due("begun", x.about(13), 1);
    }

    private static void layWhilePlayed() {
        Kit.idle("lay(2), no turn yet", Kit.played(), x -> x.lay(2), NONE);
        Kit.idle("lay(1), a turn behind", Kit.amid(), x -> x.lay(1), NONE);
        DominoParlour undone = Kit.over();
        undone.back();
        Kit.idle("lay(1), over but undone", undone, x -> x.lay(1), NONE);
    }

    private static void layBelowOne() {
        int[] few = {0, -1, -2, LOW, LOW + 1};
        for (int h : few) {
            Kit.idle("lay(" + h + ")", Kit.noHand(), x -> x.lay(h), NONE);
            Kit.idle("lay(" + h + ")", Kit.laid(), x -> x.lay(h), NONE);
            Kit.idle("lay(" + h + ")", Kit.over(), x -> x.lay(h), NONE);
        }
    }

    private static void layTooMany() {
        for (int top = 2; top <= 6; top++) {
            for (int seats = 2; seats <= 4; seats++) {
                int most = (top + 1) * (top + 2) / 2 / seats;
                // The last three times the seats wrap around to small numbers.
                int[] many = {most + 1, 28, 100, FAR, 1 << 30, (1 << 30) + 1, 1431655766};
                for (int h : many) {
                    DominoParlour x = new DominoParlour(top, seats, 10);
                    Kit.idle("lay(" + h + ") of " + top + ", " + seats, x, y -> y.lay(h), NONE);
                    due("the most", x.lay(most) >= 0, true);
                    Kit.idle("lay(" + h + ") behind one", x, y -> y.lay(h), NONE);
                }
            }
        }
    }

    private static void layWhenWon() {
        Kit.idle("lay(1)", Kit.won(), x -> x.lay(1), NONE);
        DominoParlour x = Kit.begun(2, 3, 0, new int[][] {{0}, {2}});
        x.play(0, 0);
        due("one point is missing", x.lay(1), 4);
    }

    // ---- Promise 3

    private static void giveTellsHowMany() {
        DominoParlour x = new DominoParlour(6, 4, 10);
        x.lay(7);
        for (int bone = 0; bone < 28; bone++) {
            due("give(" + bone % 4 + ", " + bone + ")", x.give(bone % 4, bone), bone / 4 + 1);
            due("where", x.where(bone), bone % 4);
            due("stock", x.about(3), 27 - bone);
        }
    }

    private static void giveWithoutAHand() {
        Kit.idle("give(0, 0)", Kit.noHand(), x -> x.give(0, 0), NONE);
    }

    private static void giveWhilePlayed() {
        Kit.idle("give(0, 2)", Kit.played(), x -> x.give(0, 2), NONE);
        DominoParlour x = Kit.amid();
        Kit.idle("seat 0 has less than h, (1,1) is in the stock", x, y -> y.give(0, 2), NONE);
    }

    private static void giveWhenOver() {
        Kit.idle("give(0, 2)", Kit.over(), x -> x.give(0, 2), NONE);
    }

    private static void giveToNoSeat() {
        int[] none = {LOW, -1, 2, 3, 4, 10, FAR};
        for (int seat : none) {
            Kit.idle("give(" + seat + ", 0)", Kit.laid(), x -> x.give(seat, 0), NONE);
        }
        DominoParlour four = new DominoParlour(2, 4, 10);
        four.lay(1);
        Kit.idle("give(4, 0)", four, x -> x.give(4, 0), NONE);
        due("give(3, 0)", four.give(3, 0), 1);
    }

    private static void giveNoBone() {
        int[] none = {LOW, -1, 6, 27, 28, 31, 32, 36, FAR};
        for (int bone : none) {
            Kit.idle("give(1, " + bone + ")", Kit.laid(), x -> x.give(1, bone), NONE);
        }
        due("give(1, 5)", Kit.laid().give(1, 5), 1);
    }

    private static void giveWhatIsGiven() {
        Kit.idle("give(1, 4), which seat 0 has", Kit.laid(), x -> x.give(1, 4), NONE);
        Kit.idle("give(0, 4), which it has", Kit.laid(), x -> x.give(0, 4), NONE);
    }

    private static void giveMoreThanH() {
        for (int h = 1; h <= 3; h++) {
            DominoParlour x = new DominoParlour(2, 2, 10);
            x.lay(h);
            for (int bone = 0; bone < h; bone++) {
                due("give(1, " + bone + ")", x.give(1, bone), bone + 1);
            }
            int next = h;
            Kit.idle("one more than " + h, x, y -> y.give(1, next), NONE);
            due("the other seat takes it", x.give(0, next), 1);
        }
    }

    // ---- Promise 4

    private static void shuffleBySeed(int top, int seats, int h, long seed, int... order) {
        DominoParlour x = new DominoParlour(top, seats, 10);
        x.lay(h);
        due("shuffle(" + seed + ")", x.shuffle(seed), true);
        for (int i = 0; i < order.length; i++) {
            due("bone " + order[i] + " of seed " + seed, x.where(order[i]), i < h * seats ? i / h : 10);
        }
        due("stock", x.about(3), order.length - h * seats);
    }

    private static void shuffles() {
        // Orders worked out by a program of another language from the words of the document.
        shuffleBySeed(2, 2, 2, 0L, 0, 2, 3, 1, 4, 5);
        shuffleBySeed(2, 2, 3, 1L, 1, 5, 4, 0, 3, 2);
        shuffleBySeed(2, 4, 1, 12345L, 5, 0, 1, 2, 3, 4);
        shuffleBySeed(5, 3, 5, 21259003500L, 1, 20, 11, 4, 15, 6, 13, 17, 3, 7, 0, 16, 19, 18, 12, 10, 8, 14, 2, 5, 9);
        shuffleBySeed(6, 4, 7, 1L, 11, 21, 5, 1, 14, 19, 7, 17, 6, 15, 13, 24, 23, 16, 27, 25, 8, 26, 2, 9, 10, 4, 0, 18,
            20, 12, 3, 22);
    }

    private static void shufflesThatWrap() {
        shuffleBySeed(2, 3, 1, -1L, 5, 0, 2, 1, 3, 4);
        shuffleBySeed(6, 4, 6, -1L, 24, 14, 4, 7, 6, 25, 22, 1, 15, 20, 3, 27, 21, 10, 18, 19, 9, 11, 13, 23, 8, 26, 16, 0,
            2, 17, 5, 12);
        shuffleBySeed(6, 2, 14, Long.MAX_VALUE, 21, 22, 16, 14, 20, 3, 12, 11, 23, 10, 19, 17, 6, 18, 9, 0, 25, 24, 2, 27,
            7, 15, 26, 8, 1, 5, 13, 4);
        shuffleBySeed(6, 3, 9, Long.MIN_VALUE, 20, 26, 11, 7, 23, 25, 1, 12, 19, 22, 17, 18, 24, 2, 14, 6, 13, 15, 9, 8, 0,
            16, 5, 21, 10, 27, 4, 3);
    }

    private static void shuffleWhateverWasGiven() {
        DominoParlour fresh = new DominoParlour(2, 2, 10);
        fresh.lay(2);
        fresh.shuffle(9);
        DominoParlour given = Kit.laid();
        given.give(0, 5);
        given.give(1, 0);
        given.give(1, 1);
        due("shuffle", given.shuffle(9), true);
        Kit.same("as if nothing was given", Kit.shown(given), Kit.shown(fresh));
        due("shuffle once more", given.shuffle(4), true);
        due("and back", given.shuffle(9), true);
        Kit.same("as if not shuffled before", Kit.shown(given), Kit.shown(fresh));
    }

    private static void shuffleWithoutAHand() {
        Kit.idle("shuffle(1)", Kit.noHand(), x -> Kit.of(x.shuffle(1)), 0);
    }

    private static void shuffleWhilePlayed() {
        Kit.idle("shuffle(1)", Kit.played(), x -> Kit.of(x.shuffle(1)), 0);
        Kit.idle("shuffle(1)", Kit.amid(), x -> Kit.of(x.shuffle(1)), 0);
    }

    private static void shuffleWhenOver() {
        Kit.idle("shuffle(1)", Kit.over(), x -> Kit.of(x.shuffle(1)), 0);
    }

    // ---- Promise 5

    private static void beginFromEachLeader() {
        for (int seats = 2; seats <= 4; seats++) {
            for (int leader = 0; leader < seats; leader++) {
                DominoParlour x = new DominoParlour(3, seats, 10);
                x.lay(2);
                x.shuffle(3);
                due("begin(" + leader + ")", x.begin(leader), true);
                due("on turn", x.about(1), leader);
                due("played", x.about(0), 2);
                due("begun", x.about(13), 1);
            }
        }
    }

    private static void beginWithoutAHand() {
        Kit.idle("begin(0)", Kit.noHand(), x -> Kit.of(x.begin(0)), 0);
    }

    private static void beginWhilePlayed() {
        Kit.idle("begin(1)", Kit.played(), x -> Kit.of(x.begin(1)), 0);
        Kit.idle("begin(0)", Kit.amid(), x -> Kit.of(x.begin(0)), 0);
    }

    private static void beginWhenOver() {
        Kit.idle("begin(0)", Kit.over(), x -> Kit.of(x.begin(0)), 0);
    }

    private static void beginWithTooFew() {
        // Each seat in its turn is the one that lacks a bone.
        for (int seats = 2; seats <= 4; seats++) {
            for (int lacking = 0; lacking < seats; lacking++) {
                DominoParlour x = new DominoParlour(3, seats, 10);
                x.lay(2);
                for (int seat = 0; seat < seats; seat++) {
                    x.give(seat, seat);
                    if (seat != lacking) {
                        x.give(seat, seats + seat);
                    }
                }
                Kit.idle("seat " + lacking + " has 1 of 2", x, y -> Kit.of(y.begin(0)), 0);
                due("its second", x.give(lacking, seats + lacking), 2);
                due("begin", x.begin(0), true);
            }
        }
    }

    private static void beginWithNothing() {
        DominoParlour x = new DominoParlour(3, 3, 10);
        x.lay(1);
        Kit.idle("nothing is given", x, y -> Kit.of(y.begin(0)), 0);
    }

    private static void beginFromNoSeat() {
        int[] none = {LOW, -1, 3, 4, 10, FAR};
        for (int leader : none) {
            DominoParlour x = new DominoParlour(3, 3, 10);
            x.lay(2);
            x.shuffle(3);
            Kit.idle("begin(" + leader + ")", x, y -> Kit.of(y.begin(leader)), 0);
            due("begin(2)", x.begin(2), true);
        }
    }

    // ---- Promise 6

    private static void playOnAnEmptyRow() {
        int[] ends = {LOW, -1, 0, 1, 2, FAR};
        for (int end : ends) {
            DominoParlour x = Kit.played();
            due("play(4, " + end + ")", x.play(4, end), 0);
            due("row", x.row(0), 12);
            due("the end is told as 0", x.turn(0, 2), 0);
            due("seat 1's turn", x.about(1), 1);
        }
    }

    private static void playIsOut() {
        DominoParlour x = Kit.amid();
        due("one of two", x.play(1, 0), 0);
        due("the last one", x.play(0, 0), 1);
        due("over", x.about(0), 3);
        due("nobody on turn", x.about(1), NONE);
        due("a hand of one bone", Kit.begun(2, 9, 1, new int[][] {{0}, {1}}).play(1, 0), 1);
    }

    private static void playWithoutAHand() {
        Kit.idle("play(0, 0)", Kit.noHand(), x -> x.play(0, 0), NONE);
    }

    private static void playWhenLaid() {
        DominoParlour x = Kit.laid();
        x.shuffle(0);
        Kit.idle("play of what seat 0 has", x, y -> y.play(y.hand(0, 0), 0), NONE);
    }

    private static void playWhenOver() {
        Kit.idle("stuck, seat 1 could play (0,1)", Kit.over(), x -> x.play(1, 0), NONE);
        Kit.idle("out, seat 1 could play (2,2)", Kit.out(), x -> x.play(5, 1), NONE);
    }

    private static void playNotHeld() {
        Kit.idle("the other seat's, empty row", Kit.played(), x -> x.play(1, 0), NONE);
        Kit.idle("the stock's, empty row", Kit.played(), x -> x.play(2, 0), NONE);
        Kit.idle("the row's", Kit.amid(), x -> x.play(4, 0), NONE);
        Kit.idle("the stock's, which fits", Kit.amid(), x -> x.play(2, 0), NONE);
        DominoParlour x = Kit.amid();
        x.pass();
        Kit.idle("the other seat's, which fits", x, y -> y.play(1, 0), NONE);
    }

    private static void playNoBone() {
        int[] none = {LOW, -1, 6, 27, 28, 32, 33, 36, 37, FAR};
        for (int bone : none) {
            Kit.idle("play(" + bone + ", 0), empty row", Kit.played(), x -> x.play(bone, 0), NONE);
            Kit.idle("play(" + bone + ", 0)", Kit.amid(), x -> x.play(bone, 0), NONE);
        }
    }

    private static void playAtNoEnd() {
        int[] none = {LOW, -2, -1, 2, 3, FAR};
        for (int end : none) {
            Kit.idle("play(1, " + end + ")", Kit.amid(), x -> x.play(1, end), NONE);
            Kit.idle("play(5, " + end + ")", Kit.amid(), x -> x.play(5, end), NONE);
        }
    }

    private static void playWhatDoesNotMeet() {
        Kit.idle("(0,1) at the end of 2", Kit.amid(), x -> x.play(1, 1), NONE);
        Kit.idle("(2,2) at the end of 1", Kit.amid(), x -> x.play(5, 0), NONE);
        DominoParlour x = Kit.amid();
        x.pass();
        Kit.idle("(0,0) at the left of (1,2)", x, y -> y.play(0, 0), NONE);
        Kit.idle("(0,0) at the right of (1,2)", x, y -> y.play(0, 1), NONE);
    }

    private static void fullRow(int end) {
        int[][] hands = new int[2][14];
        for (int i = 0; i < 28; i++) {
            hands[i % 2][i / 2] = TRAIL[i];
        }
        DominoParlour x = Kit.begun(6, 1000, 0, hands);
        for (int i = 0; i < 27; i++) {
            due("play(" + TRAIL[i] + ", " + end + ")", x.play(TRAIL[i], end), i < 26 ? 0 : 1);
        }
        due("27 bones", x.about(4), 27);
        due("(0,6) is left", x.about(9), 6);
        for (int i = 0; i < 27; i++) {
            int mirrored = TRAIL_ROW[26 - i] % 10 * 10 + TRAIL_ROW[26 - i] / 10;
            due("row(" + i + ")", x.row(i), end == 1 ? TRAIL_ROW[i] : mirrored);
        }
        due("row(27)", x.row(27), NONE);
    }

    // ---- Promise 7

    private static void passWithoutAHand() {
        Kit.idle("pass()", Kit.noHand(), x -> x.pass(), NONE);
    }

    private static void passWhenLaid() {
        Kit.idle("pass()", Kit.laid(), x -> x.pass(), NONE);
    }

    private static void passWhenOver() {
        Kit.idle("stuck", Kit.over(), x -> x.pass(), NONE);
        Kit.idle("out", Kit.out(), x -> x.pass(), NONE);
    }

    private static void passOnAnEmptyRow() {
        Kit.idle("pass()", Kit.played(), x -> x.pass(), NONE);
        DominoParlour undone = Kit.amid();
        undone.back();
        Kit.idle("emptied by back()", undone, x -> x.pass(), NONE);
        DominoParlour later = Kit.over();
        Kit.givenAndBegun(later, 1, new int[][] {{0, 4}, {1, 5}});
        Kit.idle("of a later hand", later, x -> x.pass(), NONE);
    }

    private static void longestHand() {
        // Each seat plays six bones with three passes between, then the seat before it goes on behind two passes.
        int[][] hands = new int[4][7];
        int[] block = {0, 3, 2, 1};
        for (int k = 0; k < 4; k++) {
            System.arraycopy(TRAIL, 6 * k, hands[block[k]], 0, 6);
            hands[block[k]][6] = TRAIL[24 + k];
        }
        DominoParlour x = Kit.begun(6, 1000, 0, hands);
        for (int i = 0; i < 24; i++) {
            due("play " + i, x.play(TRAIL[i], 1), 0);
            Kit.passes(x, i == 23 ? 3 : i % 6 == 5 ? 2 : 3);
        }
        due("stuck", x.pass(), 1);
        due("turns", x.about(7), 94);
        due("the last turn's seat", x.turn(93, 0), 1);
        due("no turn behind it", x.turn(94, 0), NONE);
        // Seats 0 and 2 hold (5,5) and (6,6), seats 3 and 1 (5,6) and (0,6).
        due("side", x.about(8), 1);
        due("22 less 17", x.about(9), 5);
        for (int t = 93; t >= 0; t--) {
            due("back from turn " + t, x.back(), true);
        }
        due("no more", x.back(), false);
        due("seven again", x.hand(1, 6) != NONE, true);
    }

    // ---- Promise 8

    private static void backOfEachTurn() {
        // A hand of four to its end, and back again: what is shown is the same at each turn.
        for (int seed = 0; seed < 40; seed++) {
            DominoParlour x = new DominoParlour(2 + seed % 5, 2 + seed % 3, 1 + seed % 7);
            x.lay(1 + seed % (x.about(11) / x.about(12)));
            x.shuffle(seed);
            x.begin(seed % x.about(12));
            String[] shown = new String[200];
            int turns = 0;
            while (x.about(0) == 2) {
                shown[turns++] = Kit.shown(x);
                int play = x.safest();
                if (play == NONE || turns % 5 == 4) {
                    x.pass();
                } else {
                    x.play(play / 2, play % 2);
                }
            }
            due("turns", x.about(7), turns);
            for (int t = turns - 1; t >= 0; t--) {
                due("back from turn " + t, x.back(), true);
                Kit.same("behind back to turn " + t, Kit.shown(x), shown[t]);
            }
            due("no more", x.back(), false);
        }
    }

    private static void backOfOut() {
        DominoParlour x = Kit.begun(2, 100, 0, new int[][] {{0}, {2}});
        String before = Kit.shown(x);
        x.play(0, 0);
        due("points", x.score(0), 2);
        due("back", x.back(), true);
        due("they went back", x.score(0), 0);
        Kit.same("as before", Kit.shown(x), before);
    }

    private static void backOfStuck() {
        DominoParlour x = Kit.amid();
        x.pass();
        String before = Kit.shown(x);
        x.pass();
        due("points", x.score(0), 5);
        due("back", x.back(), true);
        due("they went back", x.score(0), 0);
        Kit.same("as before", Kit.shown(x), before);
        due("one pass is still there", x.pass(), 1);
    }

    private static void backOfStuckToNobody() {
        DominoParlour x = Kit.begun(2, 100, 0, new int[][] {{5, 3}, {0, 2}});
        x.play(5, 0);
        x.pass();
        String before = Kit.shown(x);
        due("stuck", x.pass(), 1);
        due("nobody", x.about(8), NONE);
        due("back", x.back(), true);
        Kit.same("as before", Kit.shown(x), before);
    }

    private static void backOfWon() {
        DominoParlour x = Kit.won();
        due("won", x.about(10), 0);
        due("back", x.back(), true);
        due("not won", x.about(10), NONE);
        due("on turn", x.about(1), 0);
        due("won again", x.play(0, 0), 1);
        due("winner", x.about(10), 0);
        due("points once", x.score(0), 2);
    }

    private static void backKeepsEarlierScores() {
        DominoParlour x = Kit.over();
        Kit.givenAndBegun(x, 0, new int[][] {{0}, {2}});
        x.play(0, 0);
        due("5 and 2", x.score(0), 7);
        x.back();
        due("5 stay", x.score(0), 5);
        due("begun", x.about(13), 2);
        due("no more", x.back(), false);
        due("5 stay", x.score(0), 5);
    }

    private static void backWithoutAHand() {
        Kit.idle("back()", Kit.noHand(), x -> Kit.of(x.back()), 0);
    }

    private static void backWhenLaid() {
        Kit.idle("back()", Kit.laid(), x -> Kit.of(x.back()), 0);
        DominoParlour behind = Kit.over();
        behind.lay(2);
        Kit.idle("back() to an earlier hand", behind, x -> Kit.of(x.back()), 0);
    }

    private static void backBeforeATurn() {
        Kit.idle("back()", Kit.played(), x -> Kit.of(x.back()), 0);
        DominoParlour undone = Kit.amid();
        undone.back();
        Kit.idle("all undone", undone, x -> Kit.of(x.back()), 0);
        DominoParlour later = Kit.over();
        Kit.givenAndBegun(later, 1, new int[][] {{0, 4}, {1, 5}});
        Kit.idle("a later hand", later, x -> Kit.of(x.back()), 0);
    }

    private static void terms() {
        Kit.holds("1: numbered b (b + 1) / 2 + a", HandEdgeTest::numbering);
        Kit.holds("1: their WEIGHT a + b", HandEdgeTest::weights);
        Kit.holds("1: SIDES: of four seats 0 and 2, 1 and 3", HandEdgeTest::partners);
        Kit.holds("1: of two or three each its own", HandEdgeTest::eachItsOwn);
        Kit.holds("1: PLAYED from a leader on, seats in their order", HandEdgeTest::seatsInOrder);
        Kit.holds("1: at the left end, turned so that they meet", HandEdgeTest::leftMeets);
        Kit.holds("1: at the right end, turned so that they meet", HandEdgeTest::rightMeets);
        Kit.holds("1: an end whose PIPS it has", HandEdgeTest::oneBoneAtBothEnds);
        Kit.holds("1: A PASS: nothing is asked of it", HandEdgeTest::passWhoCanPlay);
        Kit.holds("1: all seats PASSED (STUCK)", HandEdgeTest::stuckBehindAllSeats);
        Kit.holds("1: one behind the other", HandEdgeTest::aPlayBetweenPasses);
        Kit.holds("1: OUT: the WEIGHT of all bones that other sides' seats hold", HandEdgeTest::outTakesAllOthers);
        Kit.holds("1: STUCK: least WEIGHT gets that of all other sides less its own", HandEdgeTest::stuckLeastTakes);
        Kit.holds("1: nobody, if two have the least", HandEdgeTest::stuckTwoHaveTheLeast);
        Kit.holds("1: nobody, if more have the least", HandEdgeTest::stuckAllHaveTheLeast);
        Kit.holds("1: two that have more WEIGHT don't count", HandEdgeTest::stuckTwoHaveTheMost);
        Kit.holds("1: STUCK: the side whose seats hold least", HandEdgeTest::stuckBySides);
        Kit.holds("1: WON by the first side that has TARGET at least", HandEdgeTest::wonAtTheTarget);
        Kit.holds("1: POINTS are added to its SCORE", HandEdgeTest::wonByManyHands);
    }

    private static void promises1And2() {
        Kit.holds("1: TOP 2 to 6; numbers outside are held to these", HandEdgeTest::topIsHeld);
        Kit.holds("1: SEATS 2 to 4; numbers outside are held to these", HandEdgeTest::seatsAreHeld);
        Kit.holds("1: TARGET 1 at least", HandEdgeTest::targetIsOneAtLeast);
        Kit.holds("1: TARGET 1,000 at most", HandEdgeTest::targetIsAThousandAtMost);
        Kit.holds("1: No HAND", HandEdgeTest::newHasNoHand);
        Kit.holds("1: no SCORES", HandEdgeTest::newHasNoScores);
        Kit.holds("2: how many bones the STOCK will have", HandEdgeTest::layTellsTheStock);
        Kit.holds("2: in place of one that isn't PLAYED", HandEdgeTest::layInPlaceOfOneLaid);
        Kit.holds("2: (or is OVER)", HandEdgeTest::layInPlaceOfOneOver);
        Kit.holds("2: NONE, doing nothing: one is PLAYED", HandEdgeTest::layWhilePlayed);
        Kit.holds("2: NONE, doing nothing: h is below 1", HandEdgeTest::layBelowOne);
        Kit.holds("2: NONE, doing nothing: h is too many", HandEdgeTest::layTooMany);
        Kit.holds("2: NONE, doing nothing: the MATCH is WON", HandEdgeTest::layWhenWon);
    }

    private static void promises3To5() {
        Kit.holds("3: how many it has", HandEdgeTest::giveTellsHowMany);
        Kit.holds("3: NONE, doing nothing: no HAND is LAID", HandEdgeTest::giveWithoutAHand);
        Kit.holds("3: NONE, doing nothing: PLAYED", HandEdgeTest::giveWhilePlayed);
        Kit.holds("3: NONE, doing nothing: OVER", HandEdgeTest::giveWhenOver);
        Kit.holds("3: NONE, doing nothing: no such seat", HandEdgeTest::giveToNoSeat);
        Kit.holds("3: NONE, doing nothing: no such bone", HandEdgeTest::giveNoBone);
        Kit.holds("3: NONE, doing nothing: it's in no STOCK", HandEdgeTest::giveWhatIsGiven);
        Kit.holds("3: NONE, doing nothing: the seat has h", HandEdgeTest::giveMoreThanH);
        Kit.holds("4: All bones are SHUFFLED by a seed and given out", HandEdgeTest::shuffles);
        Kit.holds("4: 64 bits, which wrap; without a sign", HandEdgeTest::shufflesThatWrap);
        Kit.holds("4: (whatever was given)", HandEdgeTest::shuffleWhateverWasGiven);
        Kit.holds("4: False, doing nothing: no HAND is LAID", HandEdgeTest::shuffleWithoutAHand);
        Kit.holds("4: False, doing nothing: PLAYED", HandEdgeTest::shuffleWhilePlayed);
        Kit.holds("4: False, doing nothing: OVER", HandEdgeTest::shuffleWhenOver);
        Kit.holds("5: The HAND is PLAYED from a leader on: true", HandEdgeTest::beginFromEachLeader);
        Kit.holds("5: False, doing nothing: none is LAID", HandEdgeTest::beginWithoutAHand);
        Kit.holds("5: False, doing nothing: PLAYED", HandEdgeTest::beginWhilePlayed);
        Kit.holds("5: False, doing nothing: OVER", HandEdgeTest::beginWhenOver);
        Kit.holds("5: False, doing nothing: some seat has not h bones", HandEdgeTest::beginWithTooFew);
        Kit.holds("5: False, doing nothing: no seat has any", HandEdgeTest::beginWithNothing);
        Kit.holds("5: False, doing nothing: no such seat", HandEdgeTest::beginFromNoSeat);
    }

    private static void promises6And7() {
        Kit.holds("6: (on an empty ROW the end counts for nothing)", HandEdgeTest::playOnAnEmptyRow);
        Kit.holds("6: 0; 1 it's OUT", HandEdgeTest::playIsOut);
        Kit.holds("6: NONE, doing nothing: no HAND", HandEdgeTest::playWithoutAHand);
        Kit.holds("6: NONE, doing nothing: LAID", HandEdgeTest::playWhenLaid);
        Kit.holds("6: NONE, doing nothing: OVER", HandEdgeTest::playWhenOver);
        Kit.holds("6: NONE, doing nothing: the seat doesn't hold it", HandEdgeTest::playNotHeld);
        Kit.holds("6: NONE, doing nothing: no such bone", HandEdgeTest::playNoBone);
        Kit.holds("6: NONE, doing nothing: no such end", HandEdgeTest::playAtNoEnd);
        Kit.holds("6: NONE, doing nothing: PIPS that don't meet", HandEdgeTest::playWhatDoesNotMeet);
        Kit.holds("6: a ROW as long as it can be, to the left", () -> fullRow(0));
        Kit.holds("6: a ROW as long as it can be, to the right", () -> fullRow(1));
        Kit.holds("7: NONE, doing nothing: no HAND", HandEdgeTest::passWithoutAHand);
        Kit.holds("7: NONE, doing nothing: LAID", HandEdgeTest::passWhenLaid);
        Kit.holds("7: NONE, doing nothing: OVER", HandEdgeTest::passWhenOver);
        Kit.holds("7: NONE, doing nothing: the ROW is empty", HandEdgeTest::passOnAnEmptyRow);
        Kit.holds("7: as many PASSES as a HAND can have", HandEdgeTest::longestHand);
    }

    private static void promise8() {
        Kit.holds("8: The latest TURN of the HAND is undone: true", HandEdgeTest::backOfEachTurn);
        Kit.holds("8: also of one that is OVER (OUT): its POINTS go back", HandEdgeTest::backOfOut);
        Kit.holds("8: also of one that is OVER (STUCK): its POINTS go back", HandEdgeTest::backOfStuck);
        Kit.holds("8: also of one that is OVER to nobody", HandEdgeTest::backOfStuckToNobody);
        Kit.holds("8: a MATCH that was WON isn't any more", HandEdgeTest::backOfWon);
        Kit.holds("8: its POINTS, and no earlier ones", HandEdgeTest::backKeepsEarlierScores);
        Kit.holds("8: False: there is none, no HAND", HandEdgeTest::backWithoutAHand);
        Kit.holds("8: False: there is none, LAID", HandEdgeTest::backWhenLaid);
        Kit.holds("8: False: there is none, no TURN yet", HandEdgeTest::backBeforeATurn);
    }

    public static void main(String[] args) {
        terms();
        promises1And2();
        promises3To5();
        promises6And7();
        promise8();
        Kit.end("edges of hands");
    }
}
