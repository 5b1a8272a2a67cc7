/** "An object is used for at most 512 calls": whole lives of so many calls, each answer held against the Model. */
public final class LifeTest {
    private static final int CALLS = 512;

    private final DominoParlour x;
    private final Model m;
    private int calls = 0;

    private LifeTest(int top, int seats, int target) {
        x = new DominoParlour(top, seats, target);
        m = new Model(top, seats, target);
    }

    private boolean lives() {
        return calls < CALLS;
    }

    private void due(String call, long got, long want) {
        calls++;
        Kit.due("call " + calls + " of a life, " + call + ",", got, want);
    }

    private void lay(int h) {
        due("lay(" + h + ")", x.lay(h), m.lay(h));
    }

    private void give(int seat, int bone) {
        due("give(" + seat + ", " + bone + ")", x.give(seat, bone), m.give(seat, bone));
    }

    private void shuffle(long seed) {
        due("shuffle(" + seed + ")", Kit.of(x.shuffle(seed)), Kit.of(m.shuffle(seed)));
    }

    private void begin(int leader) {
        due("begin(" + leader + ")", Kit.of(x.begin(leader)), Kit.of(m.begin(leader)));
    }

    private void play(int bone, int end) {
        due("play(" + bone + ", " + end + ")", x.play(bone, end), m.play(bone, end));
    }

    private void pass() {
        due("pass()", x.pass(), m.pass());
    }

    private void back() {
        due("back()", Kit.of(x.back()), Kit.of(m.back()));
    }

    private void about(int what) {
        due("about(" + what + ")", x.about(what), m.about(what));
    }

    private void score(int side) {
        due("score(" + side + ")", x.score(side), m.score(side));
    }

    private void lead() {
        play(m.hand(m.onTurn, 0), 0);
    }

    /** As many hands as there can be, of one bone each: four calls for each of them. */
    private static void mostHands() {
        LifeTest life = new LifeTest(2, 2, 1000);
        while (life.calls < CALLS - 4) {
            life.lay(1);
            life.shuffle(life.calls);
            life.begin(life.calls % 2);
            life.lead();
        }
        Kit.due("hands that were begun", life.m.begun, 127);
        life.about(13);
        life.score(0);
        life.score(1);
        life.about(10);
        Kit.due("calls", life.calls, CALLS);
    }

    /** Turns made and undone all the time: what a hand keeps of them never runs full. */
    private static void mostTurns() {
        LifeTest life = new LifeTest(6, 4, 1000);
        life.lay(7);
        life.shuffle(12345);
        life.begin(2);
        life.lead();
        while (life.calls < CALLS - 2) {
            life.pass();
            if (life.calls % 4 != 0 || life.m.about(0) == 3) {
                life.back();
            }
        }
        life.about(7);
        life.about(0);
        Kit.due("calls", life.calls, CALLS);
    }

    /** A hand that is over and taken back again and again: points come and go, and no rest of them stays. */
    private static void mostPoints() {
        LifeTest life = new LifeTest(6, 2, 12);
        life.lay(1);
        life.give(0, 0);
        life.give(1, 27);
        life.begin(0);
        while (life.calls < CALLS - 4) {
            life.play(0, 0);
            life.score(0);
            life.back();
            life.about(10);
        }
        life.play(0, 0);
        life.score(0);
        life.about(10);
        life.lay(1);
        Kit.due("calls", life.calls, CALLS);
    }

    /** Whole hands by the safest plays, with looks between, till the calls end. */
    private static void wholeHands(int seats, int h) {
        LifeTest life = new LifeTest(6, seats, 1000);
        while (life.lives()) {
            if (life.m.state == 2) {
                life.turnOfAHand();
            } else if (life.m.state == 1 && life.m.stock.size() == life.m.bones()) {
                life.shuffle(life.calls);
            } else if (life.m.state == 1) {
                life.begin(life.calls % seats);
            } else {
                life.lay(h);
            }
        }
    }

    private void turnOfAHand() {
        int safest = m.safest();
        due("safest()", x.safest(), safest);
        if (!lives()) {
            return;
        }
        if (safest == Model.NONE) {
            pass();
        } else {
            play(safest / 2, safest % 2);
        }
        if (lives() && m.state == 2) {
            due("look(1, 0)", x.look(1, 0), m.look(1, 0));
        } else if (lives()) {
            due("judge()", x.judge(), m.judge());
        }
    }

    public static void main(String[] args) {
        Kit.holds("at most 512 calls: hands", LifeTest::mostHands);
        Kit.holds("at most 512 calls: turns made and undone", LifeTest::mostTurns);
        Kit.holds("at most 512 calls: points that come and go", LifeTest::mostPoints);
        for (int seats = 2; seats <= 4; seats++) {
            int n = seats;
            Kit.holds("at most 512 calls: whole hands of " + n + " seats", () -> wholeHands(n, 5));
        }
        Kit.end("lives");
    }
}
