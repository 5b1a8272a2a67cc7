/** The bounds that the document names for what seats can tell and look at: terms 2 and 3, promises 15 to 20. */
public final class SightEdgeTest {
    private static final int NONE = Kit.NONE;
    private static final int FAR = Kit.FAR;
    private static final int LOW = Kit.LOW;
    private static final int NO_LOOK = -100000;

    private static final int[] NO_SEATS = {LOW, -1, 2, 3, 4, 10, 11, FAR};
    private static final int[] NO_BONES = {LOW, -1, 6, 27, 28, 32, 36, FAR};
    private static final int[] NO_ENDS = {LOW, -1, 2, 3, FAR};

    private static void due(String call, long got, long want) {
        Kit.due(call, got, want);
    }

    private static void due(String call, boolean got, boolean want) {
        Kit.due(call, got, want);
    }

    private static DominoParlour begun(int top, int leader, int[]... hands) {
        return Kit.begun(top, 100, leader, hands);
    }

    private static int[] bones(int... bones) {
        return bones;
    }

    /** The row (3,3) of seat 0, and seats 1 and 2 passed: (0,3), (1,3) and (2,3) are in the stock, with (0,2). */
    private static DominoParlour twoPassed() {
        DominoParlour x = begun(3, 0, bones(9, 0), bones(1, 2), bones(4, 5));
        x.play(9, 0);
        Kit.passes(x, 2);
        return x;
    }

    // ---- Promise 15, with terms 2

    private static void dealsOfNoHand() {
        due("no hand", Kit.noHand().deals(0), NONE);
        due("laid", Kit.laid().deals(0), NONE);
        DominoParlour x = Kit.over();
        x.lay(2);
        due("laid anew", x.deals(0), NONE);
    }

    private static void dealsWhenOver() {
        due("stuck, seat 1 passed falsely", Kit.over().deals(0), 0);
        due("stuck, seat 0 has shown (0,0)", Kit.over().deals(1), 1);
        // Seat 0 is out; (1,1) and (0,2) are the stock's, whichever.
        due("out", Kit.out().deals(1), 1);
        // Seat 1 has one of (1,1), (0,2), (2,2).
        due("out, for the one that is out", Kit.out().deals(0), 3);
    }

    private static void dealsOfNoSeat() {
        for (int seat : NO_SEATS) {
            due("deals(" + seat + ")", Kit.played().deals(seat), NONE);
            due("deals(" + seat + "), over", Kit.over().deals(seat), NONE);
        }
        due("deals(1)", Kit.played().deals(1), 6);
    }

    private static void dealsByNumbers() {
        // Six bones: the other seat has two of four; behind a play, one of three.
        due("two of four", Kit.played().deals(0), 6);
        due("one of three", Kit.amid().deals(1), 3);
        due("its own play shows it nothing new", Kit.amid().deals(0), 6);
        // Nothing in the stock: there is one deal for two seats, and all ways for four.
        due("no stock", begun(2, 0, bones(0, 1, 2), bones(3, 4, 5)).deals(0), 1);
        long[] ways = {0, 0, 0, 0, 93699005400L, 371048061384L, 125475189840L, 399072960L};
        for (int h = 4; h <= 7; h++) {
            DominoParlour x = new DominoParlour(6, 4, 10);
            x.lay(h);
            x.shuffle(h);
            x.begin(0);
            for (int seat = 0; seat < 4; seat++) {
                due("four seats with " + h, x.deals(seat), ways[h]);
            }
        }
    }

    private static void dealsBehindPasses() {
        DominoParlour x = twoPassed();
        // The three bones with 3 are the stock's; five others: two, two and one.
        due("seat 0", x.deals(0), 30);
        // Seat 2 has two of (0,0), (0,2), (1,2), (2,2), seat 0 one of the five that are left.
        due("seat 1", x.deals(1), 30);
        due("seat 2", x.deals(2), 30);
    }

    /** Top 4, four seats of three bones, seat 0 leads; turns are bones and ends, and a bone of NONE is a pass. */
    private static DominoParlour ofFour(long seed, int[][] turns) {
        DominoParlour x = new DominoParlour(4, 4, 100);
        x.lay(3);
        x.shuffle(seed);
        x.begin(0);
        for (int[] t : turns) {
            due("set-up turn", t[0] == NONE ? x.pass() : x.play(t[0], t[1]), 0);
        }
        return x;
    }

    /** Seat 0 passed at 1 and 2, seat 1 at 4, seat 3 at 1 and 3, seat 2 never. */
    private static DominoParlour threeOfFourPassed() {
        return ofFour(8, new int[][] {{14, 0}, {NONE}, {11, 1}, {12, 0}, {NONE}, {8, 0}, {9, 0}, {NONE}});
    }

    /** Seat 0 passed at 2 and 4, seats 1 and 2 at 0 and 2, seat 3 at 2 and 3. */
    private static DominoParlour allPassed() {
        return ofFour(979, new int[][] {
            {10, 0}, {3, 0}, {14, 1}, {5, 0}, {NONE}, {8, 0}, {12, 1}, {NONE}, {6, 0}, {NONE}, {NONE}
        });
    }

    private static void dealsOfManyPasses() {
        // All deals were written out one by one by a program of another language.
        long[] three = {300, 4, 143, 160};
        long[] all = {30, 35, 35, 24};
        for (int seat = 0; seat < 4; seat++) {
            due("three passed, seat " + seat, threeOfFourPassed().deals(seat), three[seat]);
            due("all passed, seat " + seat, allPassed().deals(seat), all[seat]);
        }
    }

    private static void dealsByBothEnds() {
        // Row (1,2): without 1 and 2 seat 1 can have (0,0) and (0,3) alone.
        DominoParlour x = begun(3, 0, bones(4, 9), bones(0, 6));
        x.play(4, 0);
        x.pass();
        due("one deal", x.deals(0), 1);
        due("(0,1) meets the left", x.chance(0, 1, 1), 0);
        due("(0,2) meets the right", x.chance(0, 3, 1), 0);
        due("(0,3) meets none", x.chance(0, 6, 1), 1);
    }

    private static void dealsByEarlierPasses() {
        // Seat 1 passed at 0, which is at no end any more; (0,3) can't be among its three of five.
        DominoParlour x = begun(3, 0, bones(0, 1, 3, 4), bones(2, 5, 8, 9));
        x.play(0, 0);
        x.pass();
        x.play(1, 0);
        x.play(2, 0);
        x.play(3, 1);
        due("left", x.about(5), 1);
        due("right", x.about(6), 2);
        due("three of four", x.deals(0), 4);
        due("(0,3)", x.chance(0, 6, 1), 0);
        due("(1,3)", x.chance(0, 7, 1), 3);
    }

    private static void dealsOfAFalsePass() {
        DominoParlour x = Kit.amid();
        x.pass();
        due("no deal for the other", x.deals(0), 0);
        due("its own passes don't count", x.deals(1), 3);
    }

    private static void dealsOfAnUndonePass() {
        DominoParlour x = Kit.amid();
        x.pass();
        x.back();
        due("as before", x.deals(0), 6);
        x.play(1, 0);
        due("behind a play instead", x.deals(0), 3);
    }

    private static void dealsOfALaterHand() {
        DominoParlour x = Kit.over();
        Kit.givenAndBegun(x, 0, new int[][] {{0, 4}, {1, 5}});
        due("passes of the hand before don't count", x.deals(0), 6);
        due("passes of the hand before don't count", x.deals(1), 6);
    }

    // ---- Promise 16

    private static void chanceOfNoHand() {
        due("no hand", Kit.noHand().chance(0, 0, 10), NONE);
        due("laid", Kit.laid().chance(0, 4, 0), NONE);
        due("over", Kit.over().chance(1, 0, 0), 1);
    }

    private static void chanceOfNoSeat() {
        for (int seat : NO_SEATS) {
            due("chance(" + seat + ", 1, 10)", Kit.played().chance(seat, 1, 10), NONE);
        }
    }

    private static void chanceOfNoBone() {
        for (int bone : NO_BONES) {
            due("chance(0, " + bone + ", 10)", Kit.played().chance(0, bone, 10), NONE);
            due("chance(0, " + bone + ", 11)", Kit.played().chance(0, bone, 11), NONE);
        }
        due("chance(0, 5, 10)", Kit.played().chance(0, 5, 10), 3);
    }

    private static void chanceOfNoPlace() {
        int[] none = {LOW, -1, 2, 3, 9, 12, 13, FAR};
        for (int place : none) {
            due("unseen, place " + place, Kit.amid().chance(1, 0, place), NONE);
            due("its own, place " + place, Kit.amid().chance(1, 1, place), NONE);
            due("the row's, place " + place, Kit.amid().chance(1, 4, place), NONE);
        }
        DominoParlour four = begun(2, 0, bones(0), bones(1), bones(2), bones(3));
        due("seat 3 of four", four.chance(0, 4, 3), 12);
        due("seat 4 of four", four.chance(0, 4, 4), NONE);
    }

    private static void chanceOfItsOwn() {
        int[][] want = {{0, 6}, {1, 0}, {10, 0}, {11, 0}};
        for (int[] w : want) {
            due("(1,2) of seat 0 at " + w[0], Kit.played().chance(0, 4, w[0]), w[1]);
        }
    }

    private static void chanceOfTheRows() {
        int[][] want = {{0, 0}, {1, 0}, {10, 0}, {11, 3}};
        for (int[] w : want) {
            due("(1,2) of the row for seat 1 at " + w[0], Kit.amid().chance(1, 4, w[0]), w[1]);
            due("(1,2) for seat 0, who played it, at " + w[0], Kit.amid().chance(0, 4, w[0]), 2 * w[1]);
        }
    }

    private static void chanceOfUnseen() {
        // One of (0,0), (1,1), (0,2) is seat 0's, whichever it really is.
        int[] unseen = {0, 2, 3};
        for (int bone : unseen) {
            due("bone " + bone + " at seat 0", Kit.amid().chance(1, bone, 0), 1);
            due("bone " + bone + " in the stock", Kit.amid().chance(1, bone, 10), 2);
            due("bone " + bone + " at seat 1 itself", Kit.amid().chance(1, bone, 1), 0);
            due("bone " + bone + " in the row", Kit.amid().chance(1, bone, 11), 0);
        }
    }

    private static void chanceBehindPasses() {
        DominoParlour x = twoPassed();
        int[][] want = {{0, 6, 1, 0}, {0, 6, 2, 0}, {0, 6, 10, 30}, {0, 1, 1, 12}, {0, 1, 2, 12}, {0, 1, 10, 6},
            {1, 6, 0, 6}, {1, 6, 2, 0}, {1, 6, 10, 24}, {1, 0, 0, 3}, {1, 0, 2, 15}, {1, 0, 10, 12}};
        for (int[] w : want) {
            due("chance(" + w[0] + ", " + w[1] + ", " + w[2] + ")", x.chance(w[0], w[1], w[2]), w[3]);
        }
    }

    private static void chancesOf(DominoParlour x, int seat, int[][] want) {
        int[] places = {0, 1, 2, 3, 10};
        for (int[] w : want) {
            for (int i = 0; i < places.length; i++) {
                due("chance(" + seat + ", " + w[0] + ", " + places[i] + ")", x.chance(seat, w[0], places[i]), w[i + 1]);
            }
        }
    }

    private static void chanceOfManyPasses() {
        // The bone, then its deals at seats 0 to 3 and in the stock, written out one by one as above.
        chancesOf(threeOfFourPassed(), 2, new int[][] {
            {0, 47, 18, 0, 54, 24}, {2, 0, 64, 0, 0, 79}, {3, 0, 25, 0, 85, 33}, {4, 0, 64, 0, 0, 79}, {5, 0, 25, 0, 85, 33},
            {6, 81, 26, 0, 0, 36}, {7, 0, 64, 0, 0, 79}, {10, 54, 0, 0, 62, 27}, {13, 104, 0, 0, 0, 39}
        });
        chancesOf(threeOfFourPassed(), 0, new int[][] {
            {0, 0, 56, 26, 140, 78}, {1, 0, 108, 48, 0, 144}, {10, 0, 0, 30, 180, 90}
        });
        chancesOf(allPassed(), 1, new int[][] {
            {0, 8, 0, 0, 18, 9}, {2, 7, 0, 5, 15, 8}, {4, 0, 0, 0, 0, 35}, {7, 12, 0, 9, 0, 14}, {11, 0, 0, 6, 19, 10},
            {13, 0, 0, 15, 0, 20}
        });
        chancesOf(allPassed(), 3, new int[][] {{0, 12, 0, 0, 0, 12}, {7, 6, 5, 5, 0, 8}, {11, 0, 7, 7, 0, 10}});
    }

    private static void chanceAtAnEmptyPlace() {
        due("an empty stock", begun(2, 0, bones(0, 1, 2), bones(3, 4, 5)).chance(0, 5, 10), 0);
        due("all are the other's", begun(2, 0, bones(0, 1, 2), bones(3, 4, 5)).chance(0, 5, 1), 1);
        due("a seat that is out", Kit.out().chance(1, 2, 0), 0);
        due("the stock has it", Kit.out().chance(1, 2, 10), 1);
    }

    private static void chanceOfNoDeal() {
        DominoParlour x = Kit.amid();
        x.pass();
        int[] places = {0, 1, 10, 11};
        for (int bone = 0; bone < 6; bone++) {
            for (int place : places) {
                due("bone " + bone + " at " + place, x.chance(0, bone, place), 0);
            }
        }
    }

    // ---- Promise 17

    private static void heldOfNoHand() {
        due("no hand", Kit.noHand().held(0, 0), NONE);
        DominoParlour x = Kit.laid();
        x.shuffle(0);
        due("laid", x.held(x.hand(0, 0), 0), NONE);
        due("stuck", Kit.over().held(1, 0), NONE);
        due("out", Kit.out().held(5, 1), NONE);
    }

    private static void heldOfNoPlay() {
        for (int bone : NO_BONES) {
            due("held(" + bone + ", 0), empty row", Kit.played().held(bone, 0), NONE);
            due("held(" + bone + ", 0)", Kit.amid().held(bone, 0), NONE);
        }
        for (int end : NO_ENDS) {
            due("held(1, " + end + ")", Kit.amid().held(1, end), NONE);
            due("held(5, " + end + ")", Kit.amid().held(5, end), NONE);
        }
        due("the other seat's", Kit.played().held(1, 0), NONE);
        due("the stock's", Kit.amid().held(2, 0), NONE);
        due("the row's", Kit.amid().held(4, 0), NONE);
        due("the other end", Kit.amid().held(1, 1), NONE);
        due("the other end", Kit.amid().held(5, 0), NONE);
    }

    private static void heldOnAnEmptyRow() {
        int[] ends = {LOW, -1, 0, 1, 2, FAR};
        for (int end : ends) {
            // Behind (0,0) seat 1 has (1,1) and (2,2); behind (1,2) each unseen bone is an answer.
            due("held(0, " + end + ")", Kit.played().held(0, end), 1);
            due("held(4, " + end + ")", Kit.played().held(4, end), 0);
        }
    }

    private static void heldByBothEnds() {
        // Behind (0,1) at the left the ends are 0 and 2: of (0,0), (1,1), (0,2) only (1,1) is no answer.
        due("held(1, 0)", Kit.amid().held(1, 0), 1);
        // Behind (2,2) at the right they are 1 and 2: only (0,0) is none.
        due("held(5, 1)", Kit.amid().held(5, 1), 1);
    }

    private static void heldByTheNextSeat() {
        // Seat 0 is next to seat 2 of three: eight unseen, two each and four.
        DominoParlour x = begun(3, 2, bones(0, 1), bones(3, 5), bones(9, 6));
        due("deals", x.deals(2), 420);
        due("(3,3): two of six, then two of six", x.held(9, 0), 225);
        due("(0,3): two of three, then two of six", x.held(6, 0), 45);
        // Of four, seat 2 is next to seat 1; that seat 0 passed at 1 and 3 doesn't help.
        x = begun(3, 3, bones(0, 1), bones(2, 3), bones(4, 5), bones(6, 7));
        due("(0,3): two of three, then all ways of six", x.held(6, 0), 270);
        x.play(7, 0);
        x.pass();
        due("deals", x.deals(1), 30);
        due("(1,1)", x.held(2, 0), 0);
    }

    private static void heldBehindPasses() {
        DominoParlour x = begun(3, 2, bones(0, 1), bones(3, 5), bones(9, 6));
        x.play(9, 0);
        Kit.passes(x, 2);
        // Nobody has a 3: seat 0 two of (1,1), (1,2), (2,2), seat 1 two of the four others.
        due("held(6, 0)", x.held(6, 0), 18);
        due("held(6, 1)", x.held(6, 1), 18);
    }

    // ---- Promise 18

    private static void safestOfNoHand() {
        due("no hand", Kit.noHand().safest(), NONE);
        DominoParlour x = Kit.laid();
        x.shuffle(0);
        due("laid", x.safest(), NONE);
        due("stuck", Kit.over().safest(), NONE);
        due("out", Kit.out().safest(), NONE);
    }

    private static void safestOfNoPlay() {
        DominoParlour x = Kit.amid();
        x.pass();
        due("seat 0 has (0,0) against 1 and 2", x.safest(), NONE);
    }

    private static void safestIsTheMost() {
        // 45 deals for (0,3), 225 for (3,3).
        due("the later bone", begun(3, 2, bones(0, 1), bones(3, 5), bones(9, 6)).safest(), 18);
        due("the earlier bone", Kit.played().safest(), 0);
    }

    private static void safestIsTheLeast() {
        due("(0,1) and (2,2) have one deal each", Kit.amid().safest(), 2);
        DominoParlour x = begun(2, 0, bones(2, 0), bones(4, 5));
        x.play(2, 0);
        due("(1,2) at both ends", x.safest(), 8);
        // Seat 1 passed falsely, so that no deal agrees: (1,1) at the left, (2,2) at the right have 0.
        x = begun(2, 0, bones(4, 2, 5), bones(1, 0, 3));
        x.play(4, 0);
        x.pass();
        due("(1,1)", x.held(2, 0), 0);
        due("(2,2)", x.held(5, 1), 0);
        due("none has a deal", x.safest(), 4);
    }

    private static void safestTellsTheEnd() {
        DominoParlour x = begun(2, 0, bones(1, 4), bones(2, 5));
        x.play(1, 0);
        due("(1,1) at the right", x.safest(), 5);
        x = begun(2, 0, bones(4, 3), bones(1, 0));
        x.play(4, 0);
        due("(0,1) at the left", x.safest(), 2);
    }

    // ---- Promise 19, with terms 3

    private static void lookOfNoHand() {
        for (int n = 1; n <= 4; n++) {
            for (int what = 0; what <= 2; what++) {
                due("no hand", Kit.noHand().look(n, what), NO_LOOK);
                due("laid", Kit.laid().look(n, what), NO_LOOK);
                due("stuck", Kit.over().look(n, what), NO_LOOK);
                due("out", Kit.out().look(n, what), NO_LOOK);
            }
        }
    }

    private static void lookTooNearOrFar() {
        int[] none = {LOW, -1, 0, 5, 6, FAR};
        for (int n : none) {
            for (int what = 0; what <= 2; what++) {
                due("look(" + n + ", " + what + ")", Kit.played().look(n, what), NO_LOOK);
            }
        }
        due("look(4, 0)", Kit.played().look(4, 0) > NO_LOOK, true);
    }

    private static void lookForNoWhat() {
        int[] none = {LOW, -1, 3, 4, FAR};
        for (int what : none) {
            for (int n = 1; n <= 4; n++) {
                due("look(" + n + ", " + what + ")", Kit.played().look(n, what), NO_LOOK);
            }
        }
    }

    private static void lookOnAnEmptyRow() {
        // (1,2) leaves 0 against 5, (0,0) leaves 3 against 5; each has one end alone.
        due("worth", Kit.played().look(1, 0), 5);
        due("play", Kit.played().look(1, 1), 8);
        due("turns", Kit.played().look(1, 2), 2);
    }

    private static void lookPassesOnlyIfItMust() {
        // Seat 1 holds (0,1) and (2,2), which both can go to the row (1,2).
        due("two plays", Kit.amid().look(1, 2), 2);
        due("(2,2) leaves 1 against 0", Kit.amid().look(1, 0), -1);
        due("its code", Kit.amid().look(1, 1), 11);
        DominoParlour x = Kit.amid();
        x.pass();
        due("seat 0 has none", x.look(1, 1), NONE);
        due("one pass", x.look(1, 2), 1);
        due("and it's stuck: 5 for (0,0)", x.look(1, 0), 1005);
    }

    private static void lookFirstOfEqualPlays() {
        due("(1,1) and (0,2) weigh the same", begun(2, 0, bones(3, 2), bones(4, 5)).look(1, 1), 4);
        DominoParlour x = begun(2, 0, bones(2, 0), bones(4, 5));
        x.play(2, 0);
        due("(1,2) at both ends", x.look(1, 1), 8);
        due("both were made", x.look(1, 2), 2);
        due("a later one that has more", Kit.played().look(1, 1), 8);
    }

    private static void lookWithAPartner() {
        // Row (3,3). Seats 0 and 1 pass; seat 2 has (1,3) and (2,3); seat 3 holds (2,2).
        DominoParlour x = begun(3, 3, bones(0, 1), bones(2, 4), bones(7, 8), bones(9, 5));
        x.play(9, 0);
        int[][] want = {{1, -1, 1}, {2, -1, 2}, {3, 4, 6}, {4, 3, 10}};
        for (int[] w : want) {
            due("worth of " + w[0], x.look(w[0], 0), w[1]);
            due("play of " + w[0], x.look(w[0], 1), NONE);
            due("turns of " + w[0], x.look(w[0], 2), w[2]);
        }
    }

    private static void lookAtOthers() {
        // Seat 3 passes; seat 0 of the other side plays (2,3) rather than (1,3): 8 less 6.
        DominoParlour x = begun(3, 2, bones(7, 8), bones(2, 4), bones(9, 5), bones(0, 1));
        x.play(9, 0);
        due("worth", x.look(2, 0), 2);
        due("turns", x.look(2, 2), 5);
        // Of three, the seat behind the next one is another side too: 9 and 4 less 3.
        x = begun(3, 2, bones(0, 1, 2), bones(3, 4, 5), bones(9, 7, 8));
        x.play(9, 0);
        due("worth", x.look(3, 0), 10);
        due("turns", x.look(3, 2), 6);
    }

    private static void lookOutAhead() {
        for (int n = 1; n <= 4; n++) {
            DominoParlour x = begun(2, 0, bones(0), bones(2));
            due("out at once, n " + n, x.look(n, 0), 1002);
            due("its play", x.look(n, 1), 0);
            due("one turn", x.look(n, 2), 1);
            due("no score of it", x.score(0), 0);
            // The partner's bone is not counted.
            due("of four", begun(2, 0, bones(0), bones(5), bones(4), bones(3)).look(n, 0), 1006);
            due("no points at all", begun(2, 0, bones(5), bones(0)).look(n, 0), 1000);
        }
    }

    private static void lookAnotherIsOut() {
        // Row (0,1), (0,0): seat 0 holds (2,2) and passes, seat 1 goes out with (1,1).
        DominoParlour x = begun(2, 0, bones(0, 5), bones(1, 2));
        x.play(0, 0);
        x.play(1, 0);
        due("one turn: 2 less 4", x.look(1, 0), -2);
        for (int n = 2; n <= 4; n++) {
            due("worth of " + n, x.look(n, 0), -1004);
            due("turns of " + n, x.look(n, 2), 2);
        }
        // Row (2,2), (1,2): seat 0 holds (0,0) and passes, seat 1 goes out with (1,1): no points, but another's.
        x = begun(2, 0, bones(5, 0), bones(4, 2));
        x.play(5, 0);
        x.play(4, 1);
        due("one turn: 2 less 0", x.look(1, 0), 2);
        due("another side is out without points", x.look(2, 0), -1000);
    }

    private static void lookStuck() {
        // Row (2,2), nobody has a 2: weights 0, 3, 10, so that side 0 gets 13.
        DominoParlour x = begun(3, 0, bones(5, 0), bones(1, 2), bones(9, 7));
        x.play(5, 0);
        due("two passes: 10 less 3", x.look(2, 0), 7);
        due("three: to another", x.look(3, 0), -1013);
        due("no more turns", x.look(4, 2), 3);
        x.pass();
        due("a pass that was made counts", x.look(2, 0), -1013);
        x.pass();
        due("to its own", x.look(1, 0), 1013);
        due("the look made no turn", x.about(7), 3);
    }

    private static void lookStuckToNobody() {
        // Weights 3, 4, 3.
        DominoParlour x = begun(3, 0, bones(5, 6), bones(7, 0), bones(1, 2));
        x.play(5, 0);
        due("two passes: 6 less 4", x.look(2, 0), 2);
        due("three: nobody", x.look(3, 0), 0);
        due("four: nobody", x.look(4, 0), 0);
    }

    // ---- Promise 20

    private static void judgeOfNoHand() {
        due("no hand", Kit.noHand().judge(), NONE);
        due("laid", Kit.laid().judge(), NONE);
        due("played", Kit.played().judge(), NONE);
        DominoParlour x = Kit.amid();
        x.pass();
        due("a false pass, but not over", x.judge(), NONE);
        x.pass();
        due("over", x.judge(), 1);
        x.back();
        due("not over any more", x.judge(), NONE);
    }

    private static void judgeOfTruePasses() {
        DominoParlour x = begun(3, 0, bones(5, 6), bones(7, 0), bones(1, 2));
        x.play(5, 0);
        Kit.passes(x, 2);
        due("stuck", x.pass(), 1);
        due("all were true", x.judge(), NONE);
        due("no pass at all", Kit.out().judge(), NONE);
    }

    private static void judgeTheFirst() {
        // Row (1,1): seat 1 holds (1,2), seat 0 (0,1): both passes are false.
        DominoParlour x = begun(2, 0, bones(2, 1), bones(4, 5));
        x.play(2, 0);
        x.pass();
        due("stuck", x.pass(), 1);
        due("the first", x.judge(), 1);
        // Seat 1 holds (2,2) instead: its pass is true.
        x = begun(2, 0, bones(2, 1), bones(3, 5));
        x.play(2, 0);
        x.pass();
        due("stuck", x.pass(), 1);
        due("the second", x.judge(), 2);
    }

    private static void judgeByEachEnd() {
        // Row (0,2): (0,0) meets the left, (2,2) the right end; (1,1) none.
        int[][] want = {{0, 1}, {5, 1}, {2, NONE}};
        for (int[] w : want) {
            DominoParlour x = begun(3, 0, bones(3, 9), bones(w[0], 7));
            x.play(3, 0);
            x.pass();
            due("stuck", x.pass(), 1);
            due("bone " + w[0], x.judge(), w[1]);
        }
    }

    private static void judgeAtItsTime() {
        // Seat 1 has no 2; that (0,1) meets the end 1 later doesn't make its pass false.
        DominoParlour x = begun(2, 0, bones(5, 4), bones(1, 0));
        x.play(5, 0);
        x.pass();
        due("out", x.play(4, 1), 1);
        due("right end", x.about(6), 1);
        due("true at its time", x.judge(), NONE);
        // Seat 1 passes with (0,1) and plays it later: the pass stays false.
        x = begun(2, 0, bones(2, 4, 0), bones(1, 5, 3));
        x.play(2, 0);
        x.pass();
        x.play(4, 1);
        x.play(1, 0);
        due("out", x.play(0, 0), 1);
        due("(0,1) is in the row", x.where(1), 11);
        due("false at its time", x.judge(), 1);
    }

    private static void judgeOfAnUndonePass() {
        DominoParlour x = Kit.amid();
        x.pass();
        x.back();
        x.play(1, 0);
        due("out", x.play(0, 0), 1);
        due("the false pass was undone", x.judge(), NONE);
        x = Kit.over();
        Kit.givenAndBegun(x, 0, new int[][] {{0}, {2}});
        x.play(0, 0);
        due("that of the hand before", x.judge(), NONE);
    }

    // ---- all of them

    private static void askingDoesNothing() {
        DominoParlour[] all = {Kit.noHand(), Kit.laid(), Kit.played(), Kit.amid(), Kit.over(), Kit.out(), Kit.won()};
        for (DominoParlour x : all) {
            // What is shown is asked twice: looks and counts that left a trace would show it.
            String before = Kit.shown(x);
            for (int n = 1; n <= 4; n++) {
                for (int bone = 0; bone < 6; bone++) {
                    x.look(n, bone % 3);
                    x.held(bone, n % 2);
                    x.chance(n % 2, bone, 10);
                }
            }
            x.safest();
            x.judge();
            Kit.same("asking does nothing", Kit.shown(x), before);
        }
    }

    private static void promises15And16() {
        Kit.holds("15: NONE: no HAND is PLAYED or OVER", SightEdgeTest::dealsOfNoHand);
        Kit.holds("15: also of one that is OVER", SightEdgeTest::dealsWhenOver);
        Kit.holds("15: NONE: no such seat", SightEdgeTest::dealsOfNoSeat);
        Kit.holds("15: each PLACE has its number", SightEdgeTest::dealsByNumbers);
        Kit.holds("15: no seat has a bone with PIPS at which it PASSED", SightEdgeTest::dealsBehindPasses);
        Kit.holds("15: who PASSED", SightEdgeTest::dealsOfManyPasses);
        Kit.holds("15: PASSED at which ends", SightEdgeTest::dealsByBothEnds);
        Kit.holds("15: (whenever)", SightEdgeTest::dealsByEarlierPasses);
        Kit.holds("15: a FALSE pass leaves no deal", SightEdgeTest::dealsOfAFalsePass);
        Kit.holds("15: a PASS that is undone shows nothing", SightEdgeTest::dealsOfAnUndonePass);
        Kit.holds("15: a PASS of an earlier HAND shows nothing", SightEdgeTest::dealsOfALaterHand);
        Kit.holds("16: NONE: as deals(), no HAND", SightEdgeTest::chanceOfNoHand);
        Kit.holds("16: NONE: as deals(), no such seat", SightEdgeTest::chanceOfNoSeat);
        Kit.holds("16: NONE: no such bone", SightEdgeTest::chanceOfNoBone);
        Kit.holds("16: NONE: no such place", SightEdgeTest::chanceOfNoPlace);
        Kit.holds("16: a bone that it sees: all of them, or 0: its own", SightEdgeTest::chanceOfItsOwn);
        Kit.holds("16: a bone that it sees: all of them, or 0: (the ROW is 11)", SightEdgeTest::chanceOfTheRows);
        Kit.holds("16: a bone that it doesn't see", SightEdgeTest::chanceOfUnseen);
        Kit.holds("16: In how many of these a bone is at a place", SightEdgeTest::chanceBehindPasses);
        Kit.holds("16: In how many of these, if many PASSED", SightEdgeTest::chanceOfManyPasses);
        Kit.holds("16: a place that has no bone", SightEdgeTest::chanceAtAnEmptyPlace);
        Kit.holds("16: of no deal", SightEdgeTest::chanceOfNoDeal);
    }

    private static void promises17And18() {
        Kit.holds("17: NONE: (no HAND is PLAYED)", SightEdgeTest::heldOfNoHand);
        Kit.holds("17: NONE: it can't PLAY that", SightEdgeTest::heldOfNoPlay);
        Kit.holds("17: on an empty ROW the end counts for nothing", SightEdgeTest::heldOnAnEmptyRow);
        Kit.holds("17: no bone that could be PLAYED, at either end", SightEdgeTest::heldByBothEnds);
        Kit.holds("17: the next seat", SightEdgeTest::heldByTheNextSeat);
        Kit.holds("17: of the deals that AGREE", SightEdgeTest::heldBehindPasses);
        Kit.holds("18: NONE: (no HAND is PLAYED)", SightEdgeTest::safestOfNoHand);
        Kit.holds("18: NONE: it has none", SightEdgeTest::safestOfNoPlay);
        Kit.holds("18: the most such deals", SightEdgeTest::safestIsTheMost);
        Kit.holds("18: of several the least", SightEdgeTest::safestIsTheLeast);
        Kit.holds("18: 2 times the bone, and the end", SightEdgeTest::safestTellsTheEnd);
    }

    private static void promises19And20() {
        Kit.holds("19: -100000: no HAND is PLAYED", SightEdgeTest::lookOfNoHand);
        Kit.holds("19: -100000: another n (1 to 4)", SightEdgeTest::lookTooNearOrFar);
        Kit.holds("19: -100000: another what", SightEdgeTest::lookForNoWhat);
        Kit.holds("19: on an empty ROW each bone at end 0", SightEdgeTest::lookOnAnEmptyRow);
        Kit.holds("19: or, if it has none, PASSES", SightEdgeTest::lookPassesOnlyIfItMust);
        Kit.holds("19: the first of its PLAYS that has it, by these rising", SightEdgeTest::lookFirstOfEqualPlays);
        Kit.holds("19: seats of the side on turn take what is greatest", SightEdgeTest::lookWithAPartner);
        Kit.holds("19: all others what is least", SightEdgeTest::lookAtOthers);
        Kit.holds("19: OVER ahead of it: 1,000 and its POINTS", SightEdgeTest::lookOutAhead);
        Kit.holds("19: less 1,000 less them, if to another one", SightEdgeTest::lookAnotherIsOut);
        Kit.holds("19: all seats PASSED, those before the look too", SightEdgeTest::lookStuck);
        Kit.holds("19: 0 if to nobody", SightEdgeTest::lookStuckToNobody);
        Kit.holds("20: NONE: the HAND isn't OVER", SightEdgeTest::judgeOfNoHand);
        Kit.holds("20: NONE: there is none", SightEdgeTest::judgeOfTruePasses);
        Kit.holds("20: The first TURN that was a FALSE pass", SightEdgeTest::judgeTheFirst);
        Kit.holds("20: FALSE if the seat holds a bone that could be PLAYED, at either end", SightEdgeTest::judgeByEachEnd);
        Kit.holds("20: that was a FALSE pass, at its time", SightEdgeTest::judgeAtItsTime);
        Kit.holds("20: a TURN that is undone, or of an earlier HAND", SightEdgeTest::judgeOfAnUndonePass);
        Kit.holds("15 to 20: answers alone, no change of state", SightEdgeTest::askingDoesNothing);
    }

    public static void main(String[] args) {
        promises15And16();
        promises17And18();
        promises19And20();
        Kit.end("edges of sights");
    }
}
