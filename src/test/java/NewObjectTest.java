public final class NewObjectTest {
    public static void main(String[] args) {
        if (new SnowPumps().count(0) != 0) System.exit(1);
    }
}
