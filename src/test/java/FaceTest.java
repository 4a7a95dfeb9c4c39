/** A first look at the face; the promises have tests of their own. */
public final class FaceTest {
  public static void main(String[] args) {
    Wordbefore w = new Wordbefore();
    if (w.line(0, 85, 0, 0, 0, 0) != 1 || w.run(0) != 3 || !w.outLine(0).equals("A B C") || !w.isSound()) {
      System.out.println("a FILE of one LINE does not run");
      System.exit(1);
    }
  }
}
