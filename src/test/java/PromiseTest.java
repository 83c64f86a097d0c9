public final class PromiseTest {
    public static void main(String[] args) {
        Due.is("told", 0, new LendTown().told());
        Due.end();
    }
}
