public final class SmokeTest {
    public static void main(String[] args) {
        DominoParlour x = new DominoParlour(6, 4, 100);
        if (x.about(11) != 28) { System.out.println("about(11)"); System.exit(1); }
    }
}
