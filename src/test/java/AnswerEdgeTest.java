/** The bounds that the document names for what can be asked of a hand: promises 9 to 14. */
public final class AnswerEdgeTest {
    private static final int NONE = Kit.NONE;
    private static final int FAR = Kit.FAR;
    private static final int LOW = Kit.LOW;

    private static void due(String call, long got, long want) {
        Kit.due(call, got, want);
    }

    /** One number of about() with no hand, laid, played, amid, stuck, out, and won. */
    private static void about(int what, int... want) {
        DominoParlour[] all = {
            Kit.noHand(), Kit.laid(), Kit.played(), Kit.amid(), Kit.over(), Kit.out(), Kit.won()
        };
        String[] names = {"no hand", "laid", "played", "amid", "stuck", "out", "won"};
        for (int i = 0; i < all.length; i++) {
            due("about(" + what + "), " + names[i], all[i].about(what), want[i]);
        }
    }

    // ---- Promise 9

    private static void seatOnTurn() {
        about(1, NONE, NONE, 0, 1, NONE, NONE, NONE);
        DominoParlour x = new DominoParlour(6, 4, 10);
        x.lay(7);
        x.shuffle(1);
        x.begin(3);
        due("the leader", x.about(1), 3);
        x.play(x.hand(3, 0), 0);
        due("seat 0 behind seat 3", x.about(1), 0);
    }

    private static void stockWhileGiven() {
        DominoParlour x = new DominoParlour(2, 3, 10);
        x.lay(2);
        for (int bone = 0; bone < 6; bone++) {
            due("stock before bone " + bone, x.about(3), 6 - bone);
            x.give(bone / 2, bone);
        }
        due("an empty stock", x.about(3), 0);
    }

    private static void endsOfTheRow() {
        about(5, NONE, NONE, NONE, 1, 1, 0, 0);
        about(6, NONE, NONE, NONE, 2, 2, 2, 0);
        DominoParlour x = Kit.amid();
        x.back();
        due("left of a row that was emptied", x.about(5), NONE);
        due("right of a row that was emptied", x.about(6), NONE);
    }

    private static void nobodyGotPoints() {
        DominoParlour x = Kit.begun(2, 100, 0, new int[][] {{5, 3}, {0, 2}});
        x.play(5, 0);
        x.pass();
        due("not over", x.about(8), NONE);
        due("stuck", x.pass(), 1);
        due("nobody", x.about(8), NONE);
        due("nothing", x.about(9), 0);
    }

    private static void pointsOfTheHandAlone() {
        DominoParlour x = Kit.over();
        Kit.givenAndBegun(x, 1, new int[][] {{1}, {0}});
        due("not over", x.about(8), NONE);
        due("not over", x.about(9), 0);
        due("out", x.play(0, 0), 1);
        due("side of the second hand", x.about(8), 1);
        due("points of the second hand", x.about(9), 1);
        due("score of the first", x.score(0), 5);
    }

    private static void handsThatWereBegun() {
        about(13, 0, 0, 1, 1, 1, 1, 1);
        DominoParlour x = new DominoParlour(2, 2, 100);
        for (int n = 0; n < 20; n++) {
            x.lay(1);
            due("laid, not begun", x.about(13), n);
            x.shuffle(n);
            due("refused", Kit.of(x.begin(2)), 0);
            due("begun", x.about(13), n);
            due("begin", Kit.of(x.begin(0)), 1);
            due("one more", x.about(13), n + 1);
            x.play(x.hand(0, 0), 0);
            x.back();
            due("no fewer for back()", x.about(13), n + 1);
            x.play(x.hand(0, 0), 0);
        }
    }

    private static void aboutOthers() {
        int[] others = {LOW, -2, -1, 14, 15, 100, FAR};
        for (int what : others) {
            about(what, NONE, NONE, NONE, NONE, NONE, NONE, NONE);
        }
    }

    // ---- Promise 10

    private static void scoreOfNoSide() {
        int[][] sides = {{2, 2}, {3, 3}, {4, 2}};
        for (int[] s : sides) {
            DominoParlour x = new DominoParlour(6, s[0], 10);
            int[] none = {LOW, -1, s[1], s[1] + 1, 4, 10, FAR};
            for (int side : none) {
                due("score(" + side + ") of " + s[0] + " seats", x.score(side), NONE);
            }
            due("the last side of " + s[0] + " seats", x.score(s[1] - 1), 0);
        }
    }

    private static void scoreOfEachSide() {
        for (int seats = 2; seats <= 4; seats++) {
            for (int leader = 0; leader < seats; leader++) {
                // Hands of one bone: the leader is out, the others hold 2 and more.
                int[][] hands = {{2}, {3}, {4}, {5}};
                DominoParlour x = Kit.begun(2, 100, leader, java.util.Arrays.copyOf(hands, seats));
                x.play(2 + leader, 0);
                int sides = seats == 4 ? 2 : seats;
                for (int side = 0; side < sides; side++) {
                    due("score(" + side + ")", x.score(side), side == leader % sides ? x.about(9) : 0);
                }
            }
        }
    }

    // ---- Promise 11

    private static void handRises() {
        DominoParlour x = new DominoParlour(6, 2, 10);
        x.lay(14);
        for (int bone = 27; bone >= 0; bone--) {
            x.give(bone % 2, bone);
        }
        for (int k = 0; k < 14; k++) {
            due("hand(0, " + k + ")", x.hand(0, k), 2 * k);
            due("hand(1, " + k + ")", x.hand(1, k), 2 * k + 1);
        }
        due("hand(0, 14)", x.hand(0, 14), NONE);
        due("hand(1, 14)", x.hand(1, 14), NONE);
    }

    private static void handOfNoPlace() {
        int[] none = {LOW, -1, 2, 3, 28, FAR};
        for (int k : none) {
            due("hand(0, " + k + ")", Kit.played().hand(0, k), NONE);
        }
        due("one of two is left", Kit.amid().hand(0, 1), NONE);
        due("which is", Kit.amid().hand(0, 0), 0);
        due("out", Kit.out().hand(0, 0), NONE);
    }

    private static void handOfNoSeat() {
        int[] none = {LOW, -1, 2, 3, 4, 10, 11, FAR};
        for (int seat : none) {
            due("hand(" + seat + ", 0)", Kit.played().hand(seat, 0), NONE);
        }
    }

    private static void handOfNoHand() {
        due("no hand", Kit.noHand().hand(0, 0), NONE);
        DominoParlour x = Kit.over();
        x.lay(1);
        due("laid anew", x.hand(1, 0), NONE);
    }

    // ---- Promise 12

    private static void whereNoBone() {
        int[] none = {LOW, -1, 6, 27, 28, 32, FAR};
        for (int bone : none) {
            due("where(" + bone + "), laid", Kit.laid().where(bone), NONE);
            due("where(" + bone + ")", Kit.amid().where(bone), NONE);
        }
        due("where(5)", Kit.amid().where(5), 1);
    }

    private static void whereNoHand() {
        for (int bone = 0; bone < 6; bone++) {
            due("where(" + bone + ")", Kit.noHand().where(bone), NONE);
        }
    }

    private static void whereEach() {
        int[][] want = {
            {10, 10, 10, 10, 0, 10}, {0, 1, 10, 10, 0, 1}, {0, 1, 10, 10, 11, 1}, {0, 1, 10, 10, 11, 1}, {11, 11, 10, 10, 11, 1}
        };
        DominoParlour[] all = {Kit.laid(), Kit.played(), Kit.amid(), Kit.over(), Kit.out()};
        for (int i = 0; i < all.length; i++) {
            for (int bone = 0; bone < 6; bone++) {
                due("where(" + bone + ") of state " + i, all[i].where(bone), want[i][bone]);
            }
        }
    }

    // ---- Promise 13

    private static void rowOfNoPlace() {
        int[] none = {LOW, -29, -1, 3, 4, 27, 28, 55, FAR - 28, FAR};
        for (int i : none) {
            due("row(" + i + ")", Kit.out().row(i), NONE);
        }
        int[] row = {0, 1, 12};
        for (int i = 0; i < row.length; i++) {
            due("row(" + i + ")", Kit.out().row(i), row[i]);
        }
    }

    private static void rowThatIsEmpty() {
        due("no hand", Kit.noHand().row(0), NONE);
        due("laid", Kit.laid().row(0), NONE);
        due("played", Kit.played().row(0), NONE);
        DominoParlour x = Kit.amid();
        x.back();
        due("undone", x.row(0), NONE);
        x = Kit.out();
        x.lay(1);
        due("laid anew", x.row(0), NONE);
    }

    // ---- Promise 14

    private static void turnOfNoNumber() {
        int[] none = {LOW, -1, 3, 4, 139, 140, 512, FAR};
        for (int t : none) {
            for (int what = 0; what < 3; what++) {
                due("turn(" + t + ", " + what + ")", Kit.out().turn(t, what), NONE);
            }
        }
        due("no hand", Kit.noHand().turn(0, 0), NONE);
        due("laid", Kit.laid().turn(0, 0), NONE);
        due("played", Kit.played().turn(0, 0), NONE);
    }

    private static void turnOfNoWhat() {
        int[] none = {LOW, -1, 3, 4, FAR};
        for (int what : none) {
            due("turn(0, " + what + ")", Kit.out().turn(0, what), NONE);
            due("turn(2, " + what + ")", Kit.over().turn(2, what), NONE);
        }
    }

    private static void turnOfAPass() {
        due("seat", Kit.over().turn(1, 0), 1);
        due("bone", Kit.over().turn(1, 1), NONE);
        due("end", Kit.over().turn(1, 2), NONE);
        due("seat of the last", Kit.over().turn(2, 0), 0);
    }

    private static void turnAtEachEnd() {
        // On the empty row any end is told as 0; then the left and the right one.
        for (int end = 0; end < 2; end++) {
            DominoParlour x = Kit.begun(2, 100, 0, new int[][] {{2, 0}, {4, 5}});
            x.play(2, 1);
            x.play(4, end);
            due("end of the first", x.turn(0, 2), 0);
            due("bone of the first", x.turn(0, 1), 2);
            due("end of the second", x.turn(1, 2), end);
            due("bone of the second", x.turn(1, 1), 4);
            due("seat of the second", x.turn(1, 0), 1);
        }
    }

    private static void turnThatWasUndone() {
        DominoParlour x = Kit.over();
        x.back();
        due("undone", x.turn(2, 0), NONE);
        x.back();
        x.play(5, 1);
        due("another in its place", x.turn(1, 1), 5);
        due("its end", x.turn(1, 2), 1);
        due("none behind it", x.turn(2, 0), NONE);
        x = Kit.over();
        x.lay(1);
        due("of an earlier hand", x.turn(0, 0), NONE);
    }

    private static void promise9() {
        Kit.holds("9: 0 how the HAND is (0 none, 1 LAID, 2 PLAYED, 3 OVER)", () -> about(0, 0, 1, 2, 2, 3, 3, 3));
        Kit.holds("9: 1 the seat on turn (NONE)", AnswerEdgeTest::seatOnTurn);
        Kit.holds("9: 2 h", () -> about(2, 0, 2, 2, 2, 2, 2, 1));
        Kit.holds("9: 3 bones in the STOCK", () -> about(3, 0, 5, 2, 2, 2, 2, 4));
        Kit.holds("9: 3 bones in the STOCK, all to none", AnswerEdgeTest::stockWhileGiven);
        Kit.holds("9: 4 bones in the ROW", () -> about(4, 0, 0, 0, 1, 1, 3, 1));
        Kit.holds("9: 5, 6 PIPS at its left and right end (NONE)", AnswerEdgeTest::endsOfTheRow);
        Kit.holds("9: 7 TURNS", () -> about(7, 0, 0, 0, 1, 3, 3, 1));
        Kit.holds("9: 8 the side that got POINTS (NONE: it isn't OVER)", () -> about(8, NONE, NONE, NONE, NONE, 0, 0, 0));
        Kit.holds("9: 8 the side that got POINTS (NONE: nobody)", AnswerEdgeTest::nobodyGotPoints);
        Kit.holds("9: 9 the POINTS", () -> about(9, 0, 0, 0, 0, 5, 4, 2));
        Kit.holds("9: 9 the POINTS of this HAND", AnswerEdgeTest::pointsOfTheHandAlone);
        Kit.holds("9: 10 the side that WON (NONE)", () -> about(10, NONE, NONE, NONE, NONE, NONE, NONE, 0));
        Kit.holds("9: 11 how many bones there are", () -> about(11, 6, 6, 6, 6, 6, 6, 6));
        Kit.holds("9: 12 SEATS", () -> about(12, 2, 2, 2, 2, 2, 2, 2));
        Kit.holds("9: 13 HANDS that were begun", AnswerEdgeTest::handsThatWereBegun);
        Kit.holds("9: NONE for others", AnswerEdgeTest::aboutOthers);
    }

    private static void promises10To14() {
        Kit.holds("10: The SCORE of a side", AnswerEdgeTest::scoreOfEachSide);
        Kit.holds("10: NONE: none such", AnswerEdgeTest::scoreOfNoSide);
        Kit.holds("11: by numbers rising (k from 0 on)", AnswerEdgeTest::handRises);
        Kit.holds("11: NONE: there is no such k", AnswerEdgeTest::handOfNoPlace);
        Kit.holds("11: NONE: there is no such seat", AnswerEdgeTest::handOfNoSeat);
        Kit.holds("11: NONE: there is none held", AnswerEdgeTest::handOfNoHand);
        Kit.holds("12: a seat; 10 the STOCK; 11 the ROW", AnswerEdgeTest::whereEach);
        Kit.holds("12: NONE: no such bone", AnswerEdgeTest::whereNoBone);
        Kit.holds("12: NONE: no HAND", AnswerEdgeTest::whereNoHand);
        Kit.holds("13: NONE: there is no such place", AnswerEdgeTest::rowOfNoPlace);
        Kit.holds("13: NONE: the ROW is empty", AnswerEdgeTest::rowThatIsEmpty);
        Kit.holds("14: NONE where there is no such TURN", AnswerEdgeTest::turnOfNoNumber);
        Kit.holds("14: NONE where there is no such what", AnswerEdgeTest::turnOfNoWhat);
        Kit.holds("14: the bone (NONE: a PASS), the end (NONE of a PASS)", AnswerEdgeTest::turnOfAPass);
        Kit.holds("14: the end (0 on an empty ROW)", AnswerEdgeTest::turnAtEachEnd);
        Kit.holds("14: NONE where there is none any more", AnswerEdgeTest::turnThatWasUndone);
    }

    public static void main(String[] args) {
        promise9();
        promises10To14();
        Kit.end("edges of answers");
    }
}
