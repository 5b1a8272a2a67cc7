import java.util.ArrayList;
import java.util.List;
import java.util.Random;

/** Random runs of calls on fresh objects, each answer held against the slow Model. */
public final class ModelTest {
    private static final int RUNS = 3000;
    private static final int CALLS = 170;

    private static int wrong = 0;
    private static final int[] reached = new int[8];

    private final Random dice;
    private final DominoParlour x;
    private final Model m;
    private final List<String> calls = new ArrayList<>();

    private ModelTest(int run) {
        dice = new Random(run);
        int top = dice.nextInt(3) == 0 ? dice.nextInt(10) : 2 + dice.nextInt(3);
        int seats = dice.nextInt(7);
        int target = dice.nextInt(3) == 0 ? dice.nextInt(1200) - 100 : 1 + dice.nextInt(40);
        x = new DominoParlour(top, seats, target);
        m = new Model(top, seats, target);
        calls.add("new(" + top + ", " + seats + ", " + target + ")");
    }

    private void due(String call, long got, long want) {
        calls.add(call + " = " + want);
        if (got != want) {
            wrong++;
            System.out.println(String.join("; ", calls) + " !! answered " + got);
        }
    }

    private static long of(boolean b) {
        return b ? 1 : 0;
    }

    /** Mostly a number from 0 to below n, at times one beside that or far away. */
    private int near(int n) {
        int k = dice.nextInt(40);
        if (k == 0) {
            return Integer.MIN_VALUE + dice.nextInt(2);
        }
        if (k == 1) {
            return Integer.MAX_VALUE - dice.nextInt(2);
        }
        if (k == 2) {
            return -1;
        }
        return k == 3 ? n + dice.nextInt(2) : dice.nextInt(Math.max(1, n));
    }

    private int place() {
        int k = dice.nextInt(12);
        return k == 0 ? 9 : k == 1 ? 12 : k == 2 ? 11 : k < 6 ? 10 : near(m.seats);
    }

    private void lay() {
        int h = dice.nextInt(4) == 0 ? near(m.bones() / m.seats + 2) : 1 + dice.nextInt(m.bones() / m.seats);
        due("lay(" + h + ")", x.lay(h), m.lay(h));
    }

    private void fill() {
        if (dice.nextInt(3) > 0) {
            long seed = dice.nextBoolean() ? dice.nextLong() : dice.nextInt(5) - 2;
            due("shuffle(" + seed + ")", of(x.shuffle(seed)), of(m.shuffle(seed)));
        } else {
            int gifts = dice.nextInt(2 * m.bones());
            for (int i = 0; i < gifts; i++) {
                int seat = near(m.seats);
                int bone = near(m.bones());
                due("give(" + seat + ", " + bone + ")", x.give(seat, bone), m.give(seat, bone));
            }
        }
    }

    private void begin() {
        int leader = near(m.seats);
        due("begin(" + leader + ")", of(x.begin(leader)), of(m.begin(leader)));
    }

    private void play() {
        int bone = near(m.bones());
        int end = near(2);
        if (dice.nextInt(4) > 0 && m.state == 2) {
            for (int k = 0; k < 2 * m.bones() && !m.canPlay(bone, end); k++) {
                bone = dice.nextInt(m.bones());
                end = dice.nextInt(2);
            }
        }
        due("play(" + bone + ", " + end + ")", x.play(bone, end), m.play(bone, end));
    }

    private void step() {
        int k = dice.nextInt(100);
        if (k < 3 || m.state == 0) {
            lay();
        } else if (k < 8 && m.state != 1) {
            fill();
        } else if (k < 10) {
            begin();
        } else if (m.state == 1) {
            if (dice.nextInt(3) > 0) {
                fill();
            } else {
                begin();
            }
        } else if (m.state == 3 && k < 40) {
            lay();
        } else if (k < 45) {
            play();
        } else if (k < 60) {
            boolean forced = m.state == 2 && m.safest() == Model.NONE;
            if (forced || dice.nextInt(3) == 0) {
                due("pass()", x.pass(), m.pass());
            }
        } else if (k < 64) {
            due("back()", of(x.back()), of(m.back()));
        } else {
            ask(k % 6);
        }
    }

    private void ask(int kind) {
        int bone = near(m.bones());
        int end = near(2);
        int seat = near(m.seats);
        if (kind == 0) {
            due("deals(" + seat + ")", x.deals(seat), m.deals(seat));
        } else if (kind == 1) {
            int place = place();
            due("chance(" + seat + ", " + bone + ", " + place + ")", x.chance(seat, bone, place),
                m.chance(seat, bone, place));
        } else if (kind == 2) {
            due("held(" + bone + ", " + end + ")", x.held(bone, end), m.held(bone, end));
        } else if (kind == 3) {
            due("safest()", x.safest(), m.safest());
        } else if (kind == 4) {
            int n = dice.nextInt(12) == 0 ? near(7) : 1 + dice.nextInt(m.bones() > 15 ? 2 : 4);
            int what = near(3);
            due("look(" + n + ", " + what + ")", x.look(n, what), m.look(n, what));
        } else {
            due("judge()", x.judge(), m.judge());
        }
    }

    private void compareAll() {
        for (int what = -1; what <= 14; what++) {
            same("about(" + what + ")", x.about(what), m.about(what));
        }
        for (int side = -1; side <= 4; side++) {
            same("score(" + side + ")", x.score(side), m.score(side));
        }
        for (int seat = -1; seat <= m.seats; seat++) {
            for (int k = -1; k <= m.h; k++) {
                same("hand(" + seat + ", " + k + ")", x.hand(seat, k), m.hand(seat, k));
            }
        }
        for (int bone = -1; bone <= 28; bone++) {
            same("where(" + bone + ")", x.where(bone), m.where(bone));
            same("row(" + bone + ")", x.row(bone), m.row(bone));
        }
        for (int t = -1; t <= m.turns.size(); t++) {
            for (int what = -1; what <= 3; what++) {
                same("turn(" + t + ", " + what + ")", x.turn(t, what), m.turn(t, what));
            }
        }
    }

    private void same(String call, long got, long want) {
        if (got != want) {
            due(call, got, want);
        }
    }

    private void run() {
        compareAll();
        for (int i = 0; i < CALLS && wrong < 5; i++) {
            step();
            compareAll();
            reached[m.state]++;
            reached[4] += m.won() != Model.NONE ? 1 : 0;
            reached[5] += m.state == 3 && m.gainer == Model.NONE ? 1 : 0;
            reached[6] += m.judge() != Model.NONE ? 1 : 0;
            reached[7] += m.state == 3 && m.turns.get(m.turns.size() - 1).bone != Model.NONE ? 1 : 0;
        }
    }

    public static void main(String[] args) {
        for (int run = 0; run < RUNS && wrong < 5; run++) {
            new ModelTest(run).run();
        }
        String[] names = {"no hand", "laid", "played", "over", "won", "nobody", "false pass", "out"};
        for (int i = 0; i < names.length; i++) {
            if (reached[i] == 0) {
                wrong++;
                System.out.println("no run ever reached: " + names[i]);
            }
        }
        System.out.println(wrong == 0 ? "model: all answers are as due" : "model: " + wrong + " answers are wrong");
        if (wrong != 0) {
            System.exit(1);
        }
    }
}
