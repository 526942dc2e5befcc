/**
 * For each sentence of the document that names a boundary case a test of its own, by promise: what
 * is just too small and just too large, what is empty and what is full, what comes round again, and
 * each call that is refused. What is not as due is printed with the promise's number and the case.
 */
public final class BoundaryTests {
  private BoundaryTests() {
  }

  public static void main(String[] args) {
    GameEdges.all();
    BestPlayEdges.all();
    PlayingOutEdges.all();
    PatternEdges.all();
    ClockEdges.all();
    for (int promise = 1; promise <= 30; promise++) {
      Script.that(promise, Script.edgesOf(promise) > 0, "no boundary case is tested");
    }
    System.out.println("BoundaryTests: " + Script.edges + " boundary cases, " + Script.calls
        + " answers, " + Script.wrong + " not as due");
    if (Script.wrong != 0) {
      System.exit(1);
    }
  }
}
