import java.util.function.ToLongFunction;

/** What the tests of this project share: due answers, tests by sentence, and parlours at each state. */
final class Kit {
    static final int NONE = DominoParlour.NONE;
    static final int FAR = Integer.MAX_VALUE;
    static final int LOW = Integer.MIN_VALUE;

    private static int wrong = 0;
    private static int sentences = 0;

    private Kit() {
    }

    static void due(String call, long got, long want) {
        if (got != want) {
            wrong++;
            System.out.println(call + " answered " + got + ", due is " + want);
        }
    }

    static void due(String call, boolean got, boolean want) {
        due(call, got ? 1 : 0, want ? 1 : 0);
    }

    static void same(String call, String got, String want) {
        if (!got.equals(want)) {
            wrong++;
            System.out.println(call + ": shown is\n  " + got + "\n  due is\n  " + want);
        }
    }

    /** One test for one sentence of the document; if it fails, the sentence is told. */
    static void holds(String sentence, Runnable test) {
        int before = wrong;
        test.run();
        sentences++;
        if (wrong > before) {
            System.out.println("broken: " + sentence);
        }
    }

    /** A call that answers as told and leaves everything that can be asked for as it was. */
    static void idle(String call, DominoParlour x, ToLongFunction<DominoParlour> asked, long want) {
        String before = shown(x);
        due(call, asked.applyAsLong(x), want);
        same(call + " does nothing", shown(x), before);
    }

    static void end(String name) {
        System.out.println(wrong == 0
            ? name + ": all answers are as due" + (sentences > 0 ? ", " + sentences + " sentences hold" : "")
            : name + ": " + wrong + " answers are wrong");
        if (wrong != 0) {
            System.exit(1);
        }
    }

    static long of(boolean answer) {
        return answer ? 1 : 0;
    }

    static DominoParlour noHand() {
        return new DominoParlour(2, 2, 10);
    }

    /** Two bones each, of which one is given. */
    static DominoParlour laid() {
        DominoParlour x = noHand();
        due("set-up lay", x.lay(2), 2);
        due("set-up give", x.give(0, 4), 1);
        return x;
    }

    /** Seat 0 holds (0,0) and (1,2), seat 1 (0,1) and (2,2); (1,1) and (0,2) are the stock. */
    static DominoParlour played() {
        return begun(2, 10, 0, new int[][] {{0, 4}, {1, 5}});
    }

    /** As played(), with the row (1,2), seat 1 on turn. */
    static DominoParlour amid() {
        DominoParlour x = played();
        due("set-up play", x.play(4, 0), 0);
        return x;
    }

    /** As amid(), and both passed: seat 0 got 5 for its (0,0). Seat 1's pass was false. */
    static DominoParlour over() {
        DominoParlour x = amid();
        due("set-up pass", x.pass(), 0);
        due("set-up pass", x.pass(), 1);
        return x;
    }

    /** As played(), and seat 0 is out behind (1,2), (0,1), (0,0): it got 4 for (2,2). */
    static DominoParlour out() {
        DominoParlour x = amid();
        due("set-up play", x.play(1, 0), 0);
        due("set-up play", x.play(0, 0), 1);
        return x;
    }

    /** A match to 2 that seat 0 has won with (0,0) against (1,1). */
    static DominoParlour won() {
        DominoParlour x = begun(2, 2, 0, new int[][] {{0}, {2}});
        due("set-up play", x.play(0, 0), 1);
        return x;
    }

    /** A hand that is given out as told (a row of bones for each seat) and begun. */
    static DominoParlour begun(int top, int target, int leader, int[][] hands) {
        DominoParlour x = new DominoParlour(top, hands.length, target);
        givenAndBegun(x, leader, hands);
        return x;
    }

    static void givenAndBegun(DominoParlour x, int leader, int[][] hands) {
        due("set-up lay", x.lay(hands[0].length) >= 0, true);
        for (int seat = 0; seat < hands.length; seat++) {
            for (int k = 0; k < hands[seat].length; k++) {
                due("set-up give", x.give(seat, hands[seat][k]), k + 1);
            }
        }
        due("set-up begin", x.begin(leader), true);
    }

    static void passes(DominoParlour x, int times) {
        for (int i = 0; i < times; i++) {
            due("set-up pass", x.pass(), 0);
        }
    }

    /** All that can be asked for without a change, told in one text. */
    static String shown(DominoParlour x) {
        StringBuilder b = new StringBuilder();
        for (int what = 0; what <= 13; what++) {
            b.append(what == 0 ? "about " : " ").append(x.about(what));
        }
        for (int side = 0; side < 4; side++) {
            b.append(side == 0 ? ", score " : " ").append(x.score(side));
        }
        b.append(", where");
        for (int bone = 0; bone < x.about(11); bone++) {
            b.append(' ').append(x.where(bone));
        }
        b.append(", row");
        for (int i = 0; i < x.about(4); i++) {
            b.append(' ').append(x.row(i));
        }
        b.append(", turns");
        for (int t = 0; t < x.about(7); t++) {
            b.append(' ').append(x.turn(t, 0)).append('/').append(x.turn(t, 1)).append('/').append(x.turn(t, 2));
        }
        sights(x, b);
        return b.toString();
    }

    private static void sights(DominoParlour x, StringBuilder b) {
        for (int seat = 0; seat < x.about(12); seat++) {
            b.append(", seat ").append(seat).append(" holds");
            for (int k = 0; k < x.about(11) && x.hand(seat, k) != NONE; k++) {
                b.append(' ').append(x.hand(seat, k));
            }
            b.append(" of ").append(x.deals(seat)).append(':');
            for (int bone = 0; bone < x.about(11); bone++) {
                b.append(' ').append(x.chance(seat, bone, 10));
            }
        }
        b.append(", safest ").append(x.safest()).append(", look ").append(x.look(2, 0));
        b.append(", judge ").append(x.judge());
    }
}
