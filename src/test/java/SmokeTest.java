/** A new object stands and answers. */
public final class SmokeTest {
    public static void main(String[] args) {
        BranchedText text = new BranchedText();
        if (text.many(0) != 1 || text.status() != 0) {
            System.out.println("a new object is not the START alone");
            System.exit(1);
        }
    }
}
