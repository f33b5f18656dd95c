/** Each sentence of the document that names an edge, with a test of its own. */
public final class EdgesTest extends Checks {
  public static void main(String[] args) {
    EdgesOfText.run();
    EdgesOfStack.run();
    EdgesOfLight.run();
    EdgesOfSlips.run();
    EdgesOfDesign.run();
    dueQuoted(34);
    finish("all edges hold");
  }
}
