public final class FirstTest {
    public static void main(String[] args) {
        if (new PromisePlatform().told(0) != 0) {
            System.exit(1);
        }
    }
}
