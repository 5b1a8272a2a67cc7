import java.lang.management.ManagementFactory;
import java.util.Random;

/** No call throws, whatever its arguments and whenever it comes, and calls make next to nothing in the room. */
public final class StrainTest {
    private static final int OBJECTS = 400;
    private static final int CALLS = 600;
    private static final long MOST_BYTES_NEW = 16_000;
    private static final long MOST_BYTES_OF_CALLS = 64_000;

    private static final int[] ODD = {
        Integer.MIN_VALUE, Integer.MIN_VALUE + 1, -100, -2, -1, 0, 1, 2, 3, 4, 5, 6, 7, 9, 10, 11, 12, 13, 27, 28, 29,
        31, 32, 33, 63, 64, 100, 127, 128, 140, 141, 512, 1 << 30, Integer.MAX_VALUE - 1, Integer.MAX_VALUE
    };

    private static int odd(Random dice) {
        return dice.nextInt(3) == 0 ? ODD[dice.nextInt(ODD.length)] : dice.nextInt(28);
    }

    private static long call(DominoParlour x, Random dice) {
        int i = odd(dice);
        int j = odd(dice);
        switch (dice.nextInt(30)) {
            case 0: return x.lay(dice.nextBoolean() ? i : 1 + dice.nextInt(7));
            case 1: return x.give(i, j);
            case 2: return x.shuffle(dice.nextLong()) ? 1 : 0;
            case 3: return x.begin(dice.nextInt(4)) ? 1 : 0;
            case 4: return x.back() ? 1 : 0;
            case 5: return x.about(i);
            case 6: return x.score(i);
            case 7: return x.hand(i, j);
            case 8: return x.where(i);
            case 9: return x.row(i);
            case 10: return x.turn(i, j);
            case 11: return x.deals(dice.nextBoolean() ? i : dice.nextInt(4));
            case 12: return x.chance(dice.nextInt(5), i, dice.nextBoolean() ? j : 10);
            case 13: return x.held(i, j);
            case 14: return x.safest();
            case 15: return x.look(dice.nextInt(8) == 0 ? i : 1 + dice.nextInt(3), dice.nextInt(3));
            case 16: return x.judge();
            case 17: return x.begin(i) ? 1 : 0;
            case 18: case 19: return x.pass();
            default: return x.play(i, dice.nextInt(4) == 0 ? j : dice.nextInt(2));
        }
    }

    private static boolean neverThrows() {
        for (int n = 0; n < OBJECTS; n++) {
            Random dice = new Random(n);
            DominoParlour x = new DominoParlour(odd(dice), odd(dice), odd(dice));
            for (int k = 0; k < CALLS; k++) {
                try {
                    call(x, dice);
                } catch (RuntimeException | StackOverflowError e) {
                    System.out.println("object " + n + ", call " + k + " threw " + e);
                    return false;
                }
            }
        }
        return true;
    }

    private static long bytes() {
        return ((com.sun.management.ThreadMXBean) ManagementFactory.getThreadMXBean()).getCurrentThreadAllocatedBytes();
    }

    private static long dearCalls(DominoParlour x) {
        long sum = 0;
        for (int k = 0; k < 60; k++) {
            sum += x.look(4, k % 3) + x.safest() + x.deals(k % 4) + x.chance(k % 4, k % 28, 10) + x.held(k % 28, 0);
            for (int bone = 0; bone < 28; bone++) {
                sum += x.play(bone, k & 1);
            }
            sum += x.pass() + (x.back() ? 1 : 0) + x.judge() + x.hand(0, 3);
        }
        return sum;
    }

    private static boolean makesLittle() {
        DominoParlour x = new DominoParlour(6, 4, 100);
        long before = bytes();
        x = new DominoParlour(6, 4, 100);
        long made = bytes() - before;
        x.lay(7);
        x.shuffle(12345);
        x.begin(2);
        before = bytes();
        dearCalls(x);
        long ofCalls = bytes() - before;
        if (made > MOST_BYTES_NEW || ofCalls > MOST_BYTES_OF_CALLS) {
            System.out.println("a new object makes " + made + " bytes, its calls " + ofCalls);
            return false;
        }
        return true;
    }

    public static void main(String[] args) {
        boolean calm = neverThrows();
        boolean small = makesLittle();
        System.out.println(calm && small ? "strain: nothing threw, little was made" : "strain: failed");
        if (!calm || !small) {
            System.exit(1);
        }
    }
}
