/** For each promise runs of calls, as Script reads them: ordinary ones, edges and wrong ones. */
public final class PromiseTests {
  private static final String WON_BY_0 = Script.WON_BY_0;
  private static final String WON_BY_1 = Script.WON_BY_1;

  private PromiseTests() {
  }

  public static void main(String[] args) {
    newObject();
    game();
    move();
    swap();
    undo();
    told();
    cell();
    neighbour();
    best();
    wins();
    lasts();
    dead();
    carrier();
    answer();
    gaveAway();
    far();
    plays();
    playedOut();
    type();
    wipe();
    fault();
    pattern();
    fits();
    fitsAnew();
    clocks();
    think();
    clock();
    person();
    record();
    ofPerson();
    System.out.println("PromiseTests: " + Script.calls + " answers, " + Script.wrong
        + " not as due");
    if (Script.wrong != 0) {
      System.exit(1);
    }
  }

  private static void run(int promise, String... parts) {
    Script.run(promise, parts);
  }

  private static void that(int promise, boolean holds, String what) {
    Script.that(promise, holds, what);
  }

  private static void newObject() {
    that(1, Linkcourt.NONE == -1, "NONE");
    that(1, Linkcourt.RHOMB == 0 && Linkcourt.TRIANGLE == 1 && Linkcourt.CYLINDER == 2, "kinds");
    run(1, "told(0)=0 told(1)=0 told(2)=4 told(3)=-1 told(4)=-1 told(5)=0 told(6)=0",
        "cell(0,0)=-1 cell(3,0)=-1 cell(3,4)=1 cell(3,5)=1 cell(4,0)=IOOBE",
        "neighbour(1,2)=2 neighbour(0,3)=-1", // a RHOMB: neither a TRIANGLE nor a CYLINDER
        "fault()=0 wipe()=0 fits(0,0)=IOOBE fitsAnew(0,0)=IOOBE pattern()=IAE",
        "ofPerson(0,0)=IOOBE person()=0",
        "clock(0,0)=0 clock(0,1)=0 clock(0,2)=0 clock(1,0)=0 clock(1,1)=0 clock(1,2)=0",
        "think(1)=ISE undo()=ISE swap()=ISE clocks(0,1,1)=nothing");
    // objects know nothing of one another
    Linkcourt one = new Linkcourt();
    Linkcourt other = new Linkcourt();
    one.move(2);
    one.person();
    that(1, other.told(0) == 0 && other.person() == 0, "two objects");
  }

  private static void game() {
    run(2, "game(0,2,2)=4 game(0,6,6)=36 game(0,2,6)=12 game(0,6,2)=12 game(0,3,5)=15",
        "game(1,2,2)=3 game(1,3,3)=6 game(1,6,6)=21",
        "game(2,2,3)=6 game(2,6,6)=36 game(2,6,3)=18 game(2,2,6)=12");
    run(2, "game(0,3,4)=12 move(5)=-1",
        "game(-1,3,3)=IAE game(3,3,3)=IAE game(0,1,3)=IAE game(0,7,3)=IAE game(0,3,1)=IAE",
        "game(0,3,7)=IAE game(1,3,4)=IAE game(1,4,3)=IAE game(1,1,1)=IAE game(1,7,7)=IAE",
        "game(2,2,2)=IAE game(2,1,3)=IAE game(2,7,3)=IAE game(2,3,7)=IAE",
        "game(2147483647,2147483647,2147483647)=IAE game(-2147483648,3,3)=IAE",
        "told(0)=1 told(2)=11 cell(5,0)=0"); // refused: the old game goes on
    // a new game has nothing of the old one but patterns, tape and persons
    run(2, "tape(......)= pattern()=0 tape(..)= person()=0 person()=1",
        "game(0,2,2)=4 clocks(9,2,3)=nothing think(4)=-1 move(0)=-1 swap()=0 move(1)=-1 move(2)=1",
        "record(0,1)=1016",
        "game(0,2,2)=4 told(0)=0 told(2)=4 told(4)=-1 clock(0,0)=0 clock(0,1)=0 think(1)=ISE",
        "wipe()=2 fits(0,0)=0 ofPerson(1,0)=1016 move(0)=-1 undo()=0 clocks(9,2,3)=nothing",
        "clock(0,0)=9 move(1)=-1 move(0)=-1 move(3)=-1 move(2)=1 record(0,1)=1031");
    // what best play found on one board is not told of another one with the same stones
    run(2, "game(0,2,3)=6 best()=1 wins()=0 game(2,2,3)=6 best()=0 wins()=63",
        "game(1,3,3)=6 wins()=22");
    // lost on time, then anew
    run(2, "clocks(0,1,5)=nothing think(5)=1 told(4)=1 game(0,2,2)=4 told(4)=-1 move(0)=-1");
  }

  private static void move() {
    run(3, "move(-1)=IOOBE move(4)=IOOBE move(2147483647)=IOOBE move(-2147483648)=IOOBE",
        "move(0)=-1 move(0)=IAE told(0)=1 told(1)=1 move(3)=-1 move(3)=IAE move(1)=0",
        "move(2)=ISE move(0)=IAE move(4)=IOOBE told(0)=3 told(2)=1");
    // the player 1 joins the first row with the last one
    run(3, "move(0)=-1 move(1)=-1 move(3)=-1 move(2)=1 told(3)=1 told(4)=1");
    // a TRIANGLE: the group must be at all three sides
    run(3, "game(1,3,3)=6 move(3)=-1 move(1)=-1 move(4)=-1 move(2)=-1 move(5)=0 told(4)=0");
    run(3, "game(1,3,3)=6 move(0)=-1 move(3)=-1 move(1)=-1 move(4)=-1 move(2)=-1 move(5)=1");
    // two groups that are at the three sides together do not do
    run(3, "game(1,4,4)=10 move(0)=-1 move(4)=-1 move(6)=-1 move(5)=-1 move(9)=-1 told(3)=-1");
    // a CYLINDER: over the seam; and the player 1 closes a ring
    run(3, "game(2,2,3)=6 move(0)=-1 move(3)=-1 move(5)=0 told(4)=0");
    run(3, "game(2,3,3)=9 move(0)=-1 move(3)=-1 move(1)=-1 move(4)=-1 move(2)=-1 move(5)=1",
        "move(6)=ISE told(3)=1 told(4)=1");
    // all cells of a row but one are no ring
    run(3, "game(2,2,4)=8 move(0)=-1 move(4)=-1 move(1)=-1 move(5)=-1 move(2)=-1 move(6)=-1",
        "told(3)=-1 move(7)=0");
    // a ring may wind: 4 and 5 in the second row, 9, 10 and 11 in the third one
    run(3, "game(2,3,4)=12 move(0)=-1 move(4)=-1 move(1)=-1 move(5)=-1 move(2)=-1 move(9)=-1",
        "move(3)=-1 move(10)=-1 move(8)=-1 move(11)=1 told(3)=1");
  }

  private static void swap() {
    run(4, "swap()=ISE move(1)=-1 swap()=2 cell(2,0)=1 cell(1,0)=-1 told(0)=2 told(1)=0",
        "swap()=ISE move(1)=-1 swap()=ISE cell(2,6)=1 cell(1,6)=2 told(2)=2");
    run(4, "game(0,4,4)=16 move(7)=-1 swap()=13 cell(13,0)=1 told(5)=0 told(6)=1");
    run(4, "game(0,3,4)=12 move(7)=-1 swap()=7 cell(7,0)=1 cell(7,6)=1 told(2)=11");
    run(4, "game(1,3,3)=6 move(3)=-1 swap()=3 cell(3,0)=1");
    run(4, "game(2,3,3)=9 move(1)=-1 swap()=1 cell(1,0)=1 move(3)=-1");
    run(4, swappedToTheEnd());
    run(4, "move(0)=-1 move(1)=-1 swap()=ISE told(0)=2 undo()=1 swap()=0 cell(0,0)=1");
    // over on time ahead of the second move
    run(4, "clocks(0,1,2)=nothing move(0)=-1 think(2)=0 swap()=ISE told(0)=1 cell(0,0)=0");
  }

  /** With a swap 36 cells make 37 moves; here the last one decides. */
  private static String swappedToTheEnd() {
    int[] of0 = {13, 14, 15, 17, 18, 19, 20, 21, 23, 24, 25, 26, 27, 29, 31, 32, 33};
    int[] of1 = {4, 10, 16, 22, 28, 1, 2, 3, 6, 7, 8, 9, 5, 11, 12, 30, 35};
    StringBuilder calls = new StringBuilder("game(0,6,6)=36 move(0)=-1 swap()=0");
    for (int i = 0; i < of0.length; i++) {
      calls.append(" move(").append(of0[i]).append(")=-1 move(").append(of1[i]).append(")=-1");
    }
    return calls + " told(2)=1 move(34)=0 told(0)=37 told(1)=1 cell(34,6)=36 cell(0,6)=1"
        + " gaveAway(36)=0 gaveAway(1)=IAE gaveAway(0)=ISE undo()=36 cell(34,0)=-1 told(4)=-1";
  }

  private static void undo() {
    run(5, "undo()=ISE move(1)=-1 move(2)=-1 undo()=1 cell(2,0)=-1 told(1)=1 undo()=0 undo()=ISE",
        "told(0)=0 move(2)=-1 cell(2,0)=0");
    // a swap
    run(5, "game(0,3,3)=9 move(1)=-1 swap()=3 move(4)=-1 undo()=2 undo()=1 cell(1,0)=0",
        "cell(3,0)=-1 cell(1,6)=0 move(3)=-1 cell(1,0)=0 cell(3,0)=1 undo()=1 undo()=0",
        "move(4)=-1 move(1)=-1 cell(4,0)=0 cell(4,6)=0");
    // a won game goes on, a recorded one does not
    run(5, "person()=0 person()=1 move(0)=-1 move(3)=-1 move(1)=0 undo()=2 told(4)=-1 move(1)=0",
        "record(0,1)=1016 undo()=ISE told(0)=3 told(4)=0");
    // lost on time
    run(5, "clocks(3,0,1)=nothing move(0)=-1 think(4)=0 undo()=ISE told(0)=1 told(4)=0");
  }

  private static void told() {
    run(6, "told(-1)=IAE told(7)=IAE told(-2147483648)=IAE",
        "game(0,3,3)=9 move(0)=-1 move(1)=-1 move(8)=-1 move(4)=-1 move(2)=-1",
        "told(0)=5 told(1)=1 told(2)=4 told(3)=-1 told(4)=-1 told(5)=3 told(6)=1",
        "move(7)=1 told(0)=6 told(1)=0 told(3)=1 told(4)=1 told(6)=1 told(5)=3");
    // lost on time: nobody has joined, yet one has won
    run(6, "clocks(1,0,1)=nothing think(2)=1 told(3)=-1 told(4)=1 told(1)=0 told(0)=0");
    // over the seam of a CYLINDER there is one group
    run(6, "game(2,2,4)=8 move(0)=-1 move(1)=-1 move(3)=-1 told(5)=1 told(6)=1 move(2)=-1",
        "told(6)=1");
    run(6, "game(0,2,4)=8 move(0)=-1 move(1)=-1 move(3)=-1 told(5)=2");
  }

  private static void cell() {
    run(7, "cell(-1,0)=IOOBE cell(4,0)=IOOBE cell(4,9)=IOOBE cell(0,-1)=IAE cell(0,7)=IAE");
    run(7, "game(0,3,4)=12 cell(11,4)=2 cell(11,5)=3 cell(6,4)=1 cell(6,5)=2",
        "cell(6,0)=-1 cell(6,1)=-1 cell(6,2)=-1 cell(6,3)=-1 cell(6,6)=-1",
        "move(8)=-1 move(6)=-1 move(4)=-1 move(3)=-1 move(5)=-1",
        "cell(4,0)=0 cell(4,1)=3 cell(4,2)=9 cell(4,3)=4 cell(4,6)=2 cell(8,3)=4 cell(8,6)=0",
        "cell(3,0)=1 cell(3,1)=2 cell(3,2)=6 cell(3,3)=3 cell(3,6)=3 cell(6,1)=2 cell(6,3)=3");
    run(7, "game(1,4,4)=10 cell(5,4)=2 cell(5,5)=2 cell(6,4)=3 cell(6,5)=0 cell(9,5)=3",
        "move(0)=-1 move(9)=-1 move(6)=-1 move(4)=-1",
        "cell(0,2)=3 cell(9,2)=6 cell(6,2)=5 cell(4,2)=0");
    run(7, "game(2,3,4)=12 move(0)=-1 move(11)=-1 move(3)=-1 move(7)=-1 move(6)=-1",
        "cell(3,1)=3 cell(3,2)=1 cell(6,3)=0 cell(11,2)=2 cell(7,1)=2 cell(7,3)=7 cell(7,4)=1");
    // the first cell of a swapped game, taken again
    run(7, "game(0,3,3)=9 move(1)=-1 swap()=3 cell(3,6)=1 cell(1,6)=-1 move(4)=-1 move(1)=-1",
        "cell(1,6)=3 cell(1,0)=1");
  }

  private static void neighbour() {
    run(8, "neighbour(-1,0)=IOOBE neighbour(4,0)=IOOBE neighbour(4,6)=IOOBE neighbour(0,-1)=IAE",
        "neighbour(0,6)=IAE neighbour(0,-2147483648)=IAE");
    run(8, "game(0,3,4)=12 neighbour(5,0)=6 neighbour(5,1)=9 neighbour(5,2)=8 neighbour(5,3)=4",
        "neighbour(5,4)=1 neighbour(5,5)=2 neighbour(3,0)=-1 neighbour(3,2)=6 neighbour(8,5)=5",
        "neighbour(4,2)=-1 neighbour(4,3)=-1 neighbour(7,5)=-1 neighbour(11,1)=-1");
    run(8, "game(1,4,4)=10 neighbour(4,0)=5 neighbour(4,1)=8 neighbour(4,2)=7 neighbour(4,3)=3",
        "neighbour(4,4)=1 neighbour(4,5)=2 neighbour(0,0)=-1 neighbour(0,4)=-1 neighbour(0,5)=-1",
        "neighbour(0,1)=2 neighbour(0,2)=1 neighbour(3,4)=-1 neighbour(5,5)=-1 neighbour(9,1)=-1");
    run(8, "game(2,3,4)=12 neighbour(3,0)=0 neighbour(0,3)=3 neighbour(4,2)=11 neighbour(7,5)=0",
        "neighbour(4,1)=8 neighbour(0,4)=-1 neighbour(0,5)=-1 neighbour(8,1)=-1 neighbour(8,2)=-1");
  }

  private static void best() {
    run(9, "best()=0 move(0)=-1 best()=1 move(1)=-1 best()=1 move(3)=-1 best()=1 move(2)=1",
        "best()=1");
    run(9, "game(0,3,3)=9 best()=0 move(0)=-1 best()=1 undo()=0 move(4)=-1 best()=0");
    run(9, "game(0,3,4)=12 best()=ISE move(0)=-1 move(1)=-1 best()=ISE move(5)=-1 best()=1",
        "undo()=2 best()=ISE");
    // who has the shorter way wins, even behind the other one
    run(9, "game(0,2,3)=6 best()=1 game(0,3,2)=6 best()=0");
    run(9, "game(2,2,3)=6 best()=0 game(2,3,3)=9 best()=0 game(2,2,4)=8 best()=0");
    // lost on time: best play is told all the same
    run(9, "clocks(1,0,1)=nothing think(2)=1 best()=0 wins()=6 lasts()=3 dead()=0",
        "carrier(1,102,103)=-1");
    // behind a swap
    run(9, "move(1)=-1 best()=0 swap()=2 best()=1 undo()=1 best()=0");
    // the same stones, but the other player to move
    run(9, "move(0)=-1 swap()=0 move(1)=-1 best()=1 undo()=2 undo()=1 undo()=0 move(1)=-1",
        "move(0)=-1 best()=0 wins()=4 undo()=1 undo()=0 move(0)=-1 swap()=0 move(1)=-1 lasts()=1",
        "best()=1 wins()=4");
  }

  private static void wins() {
    run(10, "wins()=6 move(1)=-1 wins()=0 move(0)=-1 wins()=4 move(2)=0 wins()=0");
    run(10, "game(0,3,3)=9 wins()=214 move(4)=-1 wins()=0 undo()=0 move(0)=-1 wins()=16 undo()=0",
        "wins()=214 move(4)=-1 wins()=0");
    run(10, "game(1,2,2)=3 wins()=7 move(0)=-1 wins()=0 move(1)=-1 wins()=4 move(2)=0 wins()=0");
    // a bit for the cell 34, high above those of an int
    run(10, bigBoard(), "told(2)=3 told(1)=1 told(3)=-1 wins()=17179869184 lasts()=1",
        "dead()=35433480192 far(0)=1 far(1)=1 best()=1 undo()=32 wins()=0");
    run(10, "game(0,3,4)=12 wins()=ISE game(1,4,4)=10 wins()=ISE move(4)=-1 wins()=0");
  }

  /** A RHOMB of six rows with the cells 30, 34 and 35 left; with 34 either player joins. */
  private static String bigBoard() {
    int[] of0 = {13, 14, 15, 17, 18, 19, 20, 21, 23, 24, 25, 26, 27, 29, 31, 32, 33};
    int[] of1 = {4, 10, 16, 22, 28, 0, 1, 2, 3, 6, 7, 8, 9, 5, 11, 12};
    StringBuilder calls = new StringBuilder("game(0,6,6)=36");
    for (int i = 0; i < of0.length; i++) {
      calls.append(" move(").append(of0[i]).append(")=-1");
      if (i < of1.length) {
        calls.append(" move(").append(of1[i]).append(")=-1");
      }
    }
    return calls.toString();
  }

  private static void lasts() {
    run(11, "lasts()=3 move(1)=-1 lasts()=2 move(0)=-1 lasts()=1 move(2)=0 lasts()=0");
    run(11, "game(0,3,3)=9 lasts()=5 move(4)=-1 lasts()=4 game(1,2,2)=3 lasts()=3",
        "game(1,3,3)=6 lasts()=5");
    run(11, "game(0,4,4)=16 lasts()=ISE game(2,2,5)=10 lasts()=ISE move(0)=-1 lasts()=2");
    // who is to lose chooses the longest way
    run(11, "game(2,2,3)=6 lasts()=3 move(0)=-1 lasts()=2 move(3)=-1 lasts()=1");
    run(11, "game(0,2,4)=8 lasts()=4 move(0)=-1 lasts()=3");
  }

  private static void dead() {
    run(12, "dead()=0 move(0)=-1 dead()=0 move(3)=-1 dead()=4 move(1)=0 dead()=4");
    run(12, "game(1,3,3)=6 dead()=0 move(4)=-1 move(1)=-1 move(2)=-1 dead()=32");
    // all empty cells are dead when somebody has joined
    run(12, "game(2,2,3)=6 move(0)=-1 move(4)=-1 move(5)=0 dead()=14");
    // the cell 6 decides: it joins 7 and 8 with the first column, or 1 and 3 with the last row
    run(12, "game(0,3,3)=9 move(8)=-1 move(1)=-1 move(7)=-1 move(3)=-1 dead()=53");
    run(12, "game(0,3,4)=12 dead()=ISE");
  }

  private static void carrier() {
    run(13, "carrier(-1,100,101)=IOOBE carrier(2,100,101)=IOOBE carrier(0,104,101)=IOOBE",
        "carrier(0,100,104)=IOOBE carrier(0,99,101)=IOOBE carrier(0,-1,101)=IOOBE",
        "carrier(0,4,101)=IOOBE carrier(0,100,100)=IAE carrier(0,0,101)=IAE carrier(0,101,3)=IAE",
        "move(0)=-1 carrier(1,0,101)=IAE carrier(0,0,0)=IAE carrier(0,0,100)=0",
        "carrier(0,0,102)=0 carrier(0,0,101)=-1 carrier(0,100,102)=0 carrier(1,102,103)=-1");
    run(13, "game(1,2,2)=3 carrier(0,100,103)=IOOBE carrier(0,103,103)=IOOBE carrier(0,100,102)=-1",
        "game(2,2,3)=6 carrier(0,100,102)=IOOBE carrier(0,101,100)=63");
    // a bridge between two cells, and what breaks it
    run(13, "game(0,3,3)=9 move(1)=-1 move(0)=-1 move(5)=-1 carrier(0,1,5)=20 carrier(0,5,1)=20",
        "move(2)=-1 carrier(0,1,5)=-1 move(4)=-1 carrier(0,1,5)=0");
    // the fewest cells, of several sets the lowest
    run(13, "game(0,3,3)=9 carrier(0,100,101)=-1 move(4)=-1 carrier(0,100,101)=108",
        "carrier(0,4,100)=72 carrier(0,4,101)=36 carrier(0,4,102)=6 carrier(0,4,103)=192",
        "carrier(1,102,103)=-1");
    // the exceptions in their order
    run(13, "game(0,3,4)=12 carrier(0,100,101)=ISE carrier(0,100,100)=IAE carrier(0,12,12)=IOOBE",
        "carrier(0,3,101)=IAE move(3)=-1 carrier(0,3,100)=ISE carrier(0,3,101)=ISE");
    // the player 1 on a CYLINDER has groups too
    run(13, "game(2,2,3)=6 move(0)=-1 move(1)=-1 carrier(1,100,101)=24 carrier(1,1,101)=24");
  }

  private static void answer() {
    run(14, "answer(-1,100,101,0)=IOOBE answer(0,104,101,0)=IOOBE answer(0,100,101,4)=IOOBE",
        "answer(0,100,101,-1)=IOOBE answer(0,100,100,4)=IOOBE answer(0,100,100,0)=IAE",
        "answer(0,0,100,0)=IAE answer(0,100,101,0)=-1");
    run(14, "game(0,3,3)=9 move(4)=-1 answer(0,4,100,3)=6 answer(0,4,100,6)=3",
        "answer(0,4,100,0)=-1 answer(0,4,100,4)=-1 answer(0,100,101,2)=5 answer(0,100,101,5)=2",
        "answer(0,100,101,6)=3 answer(1,102,103,0)=-1");
    // ends that are joined need no answer
    run(14, "move(0)=-1 answer(0,0,100,2)=-1");
    run(14, "game(0,3,4)=12 answer(0,100,101,0)=ISE answer(0,100,101,12)=IOOBE",
        "answer(0,100,100,0)=IAE");
    // of several answers the lowest one
    run(14, "game(2,2,3)=6 carrier(0,100,101)=63 answer(0,100,101,0)=1 answer(0,100,101,5)=0");
  }

  private static void gaveAway() {
    run(15, "gaveAway(0)=IOOBE move(0)=-1 gaveAway(0)=1 gaveAway(1)=IOOBE gaveAway(-1)=IOOBE",
        "move(3)=-1 gaveAway(1)=1 move(1)=0 gaveAway(2)=0 gaveAway(1)=1 gaveAway(0)=1");
    run(15, "move(0)=-1 move(1)=-1 gaveAway(1)=0 gaveAway(0)=1");
    run(15, "move(1)=-1 gaveAway(0)=0 swap()=2 gaveAway(1)=IAE gaveAway(0)=0 gaveAway(2)=IOOBE",
        "move(0)=-1 gaveAway(2)=0 move(1)=1 gaveAway(3)=0");
    // the first move gave the win away, though the stone was swapped then
    run(15, "move(0)=-1 swap()=0 gaveAway(0)=1 gaveAway(1)=IAE best()=0 move(3)=-1 gaveAway(2)=1",
        "undo()=2 move(2)=-1 gaveAway(2)=0");
    run(15, "game(0,3,4)=12 move(5)=-1 swap()=5 gaveAway(0)=ISE gaveAway(1)=IAE move(6)=-1",
        "gaveAway(2)=ISE move(0)=-1 gaveAway(3)=ISE move(1)=-1 gaveAway(4)=0 gaveAway(5)=IOOBE");
    run(15, "game(1,4,4)=10 move(4)=-1 gaveAway(0)=ISE move(0)=-1 gaveAway(1)=0");
  }

  private static void far() {
    run(16, "far(-1)=IOOBE far(2)=IOOBE far(0)=2 far(1)=2 move(0)=-1 far(0)=1 far(1)=2",
        "move(3)=-1 far(0)=1 far(1)=1 move(1)=0 far(0)=0 far(1)=-1");
    run(16, "game(0,6,6)=36 far(0)=6 far(1)=6 game(0,2,6)=12 far(0)=6 far(1)=2",
        "move(7)=-1 move(2)=-1 far(0)=5 far(1)=1");
    run(16, "game(1,6,6)=21 far(0)=6 far(1)=6 move(4)=-1 far(0)=5 far(1)=6 move(12)=-1 far(1)=5");
    // three ways that meet between the sides
    run(16, "game(1,5,5)=15 move(3)=-1 move(0)=-1 move(13)=-1 move(1)=-1 move(9)=-1 far(0)=2");
    run(16, "game(2,4,3)=12 far(0)=4 far(1)=ISE far(2)=IOOBE move(4)=-1 far(0)=3 far(1)=ISE",
        "move(6)=-1 move(0)=-1 move(8)=-1 move(1)=-1 move(7)=1 far(0)=-1 far(1)=ISE");
  }

  private static void plays() {
    run(17, "plays(-1,1)=IAE plays(1000001,1)=IAE plays(0,0)=IAE plays(0,51)=IAE plays(0,-1)=IAE",
        "game(0,4,4)=16 move(1)=-1 swap()=4 move(5)=-1 plays(7,20)=10");
    run(17, "move(0)=-1 move(3)=-1 move(1)=0 plays(0,1)=ISE plays(0,51)=IAE");
    // one cell is left, whatever is drawn
    run(17, "move(0)=-1 move(1)=-1 move(3)=-1 plays(0,50)=0 plays(1000000,50)=0");
    // a game that was lost on time can be played out
    run(17, "move(0)=-1 move(1)=-1 undo()=1 undo()=0 clocks(1,0,1)=nothing move(0)=-1 move(1)=-1",
        "move(3)=-1 think(2)=0 told(4)=0 plays(3,4)=0 playedOut(3)=9");
    Linkcourt court = new Linkcourt();
    court.game(Linkcourt.CYLINDER, 4, 4);
    court.move(5);
    int joined = 0;
    for (int seed = 90; seed < 120; seed++) {
      joined += court.plays(seed, 1);
    }
    that(17, joined == court.plays(90, 30) && joined > 0 && joined < 30, "seeds one by one");
  }

  private static void playedOut() {
    run(18, "playedOut(-1)=IAE playedOut(1000001)=IAE move(0)=-1 move(3)=-1 move(1)=0",
        "playedOut(0)=ISE playedOut(-1)=IAE");
    run(18, "game(0,4,4)=16 move(1)=-1 swap()=4 move(5)=-1 playedOut(7)=44137");
    // x is 12345 first, its 65536th part 0: the cell 0. Then 1406932606 and 21468: modulo 3 it is
    // 0, the cell 1; then 654583775 and 9988: modulo 2 it is 0, the cell 2 (no bridge is broken)
    run(18, "playedOut(0)=5 told(0)=0 told(2)=4");
    run(18, "move(0)=-1 move(1)=-1 move(3)=-1 playedOut(1000000)=9 playedOut(1000001)=IAE");
    // the player 1 breaks the bridge of the cells 1 and 5 on 2 or 4, if it draws one of them
    run(18, "game(0,3,3)=9 move(1)=-1 move(0)=-1 move(5)=-1 move(8)=-1 move(6)=-1",
        oraclePlays("game(0,3,3) move(1) move(0) move(5) move(8) move(6)"));
  }

  /** What the Oracle says of forty seeds behind some calls. */
  private static String oraclePlays(String calls) {
    Oracle oracle = new Oracle();
    for (String call : calls.split(" ")) {
      String[] parts = call.split("[(),]");
      long[] arguments = new long[parts.length - 1];
      for (int i = 0; i < arguments.length; i++) {
        arguments[i] = Long.parseLong(parts[i + 1]);
      }
      Calls.answer(oracle, parts[0], arguments);
    }
    StringBuilder due = new StringBuilder();
    for (int seed = 0; seed < 40; seed++) {
      due.append("playedOut(" + seed + ")=" + oracle.playedOut(seed) + " ");
    }
    return due.toString();
  }

  private static void type() {
    run(19, "type(46,0)=IAE type(46,9)=IAE type(46,-1)=IAE type(32,1)=IAE type(0,1)=IAE",
        "type(46,2)=IAE fault()=0 wipe()=0"); // the second character is 0
    run(19, "type(46,1)=1 type(111,1)=2 type(120,1)=3 type(35,1)=4 type(42,1)=5 type(33,1)=6",
        "type(124,1)=7 wipe()=7");
    // what stands above the n characters does not matter, the sign of the number neither
    run(19, "type(-210,1)=1 type(8970,1)=IAE type(3038287259199220266,8)=9 wipe()=9");
    run(19, "type(3038287259199220266,8)=8 type(3038287259199220266,8)=16",
        "type(3038287259199220266,8)=24 type(3038287259199220266,7)=ISE",
        "type(3038287259199220266,6)=30 type(42,1)=ISE type(32,1)=IAE type(42,0)=IAE wipe()=30");
    // the first one in the lowest bits: o, then |
    run(19, "type(31855,2)=2 fault()=1");
    // capital letters, and a character above 127
    run(19, "type(79,1)=IAE type(174,1)=IAE type(-1,8)=IAE wipe()=0");
  }

  private static void wipe() {
    run(20, "wipe()=0 type(46,1)=1 wipe()=1 wipe()=0 tape(......|)= wipe()=7 fault()=0",
        "type(46,1)=1");
  }

  private static void fault() {
    run(21, "fault()=0 tape(.)= fault()=1 tape(.....)= fault()=5 tape(.ox#*.)= fault()=-1",
        "tape(......!)= fault()=-1 tape(......|)= fault()=7 tape(......!|)= fault()=8",
        "tape(!)= fault()=0 tape(|)= fault()=0 tape(.....!)= fault()=5 tape(.....|)= fault()=5",
        "tape(.......)= fault()=6 tape(......!!)= fault()=7 tape(......!.)= fault()=7",
        "tape(......||)= fault()=7 tape(......|!)= fault()=7 tape(......|.....!)= fault()=12",
        "tape(......|......)= fault()=-1 tape(......!|......!)= fault()=-1",
        "tape(......|......|......|......)= fault()=-1",
        "tape(......!|......!|......!|......)= fault()=-1",
        "tape(......|......|......|......|.)= fault()=29",
        "tape(......|......|......|......|!)= fault()=28",
        "tape(!|!|!|)= fault()=0");
  }

  private static void pattern() {
    run(22, "pattern()=IAE tape(.....)= pattern()=IAE wipe()=5 tape(......|)= pattern()=IAE",
        "tape(.......)= pattern()=IAE wipe()=7",
        "tape(......)= pattern()=0 wipe()=0 pattern()=IAE tape(******!)= pattern()=1",
        "tape(******)= pattern()=2 tape(******)= pattern()=3 tape(******)= pattern()=4",
        "fits(5,0)=IOOBE tape(******)= pattern()=5 tape(.)= pattern()=IAE",
        "tape(******)= pattern()=ISE wipe()=6 fits(0,0)=0 fits(1,0)=15 fits(5,0)=15",
        "fits(6,0)=IOOBE");
  }

  /** Patterns and where they fit; both calls that tell it are asked. */
  private static void fit(int promise, String board, String text, long for0, long for1) {
    String name = promise == 23 ? "fits" : "fitsAnew";
    run(promise, board, "tape(" + text + ")= pattern()=0 " + name + "(0,0)=" + for0 + " " + name
        + "(0,1)=" + for1);
  }

  private static void fitsEach(int promise) {
    // the corners of a RHOMB: 0 has neighbours in the directions 0 and 1, 8 in 3 and 4,
    // 2 in 1, 2 and 3, 6 in 0, 4 and 5
    String empty = "game(0,3,3)=9";
    fit(promise, empty, "..####!", 1, 1);
    fit(promise, empty, "..####", 257, 257);
    fit(promise, empty, "...###", 68, 68);
    fit(promise, empty, "###..#!", 256, 256);
    fit(promise, empty, "......", 16, 16);
    fit(promise, empty, "******", 511, 511);
    fit(promise, empty, "#.....", 0, 0);
    fit(promise, empty, "#*****!", 292, 292);
    fit(promise, empty, "..####!|###..#!", 257, 257);
    fit(promise, empty, "......|..####!", 17, 17);
    fit(promise, empty, "......|..####!|...###", 85, 85);
    fit(promise, empty, "xxxxxx|oooooo|#####.|..####", 257, 257);
    // a stone of the player 0 on 4, one of the player 1 on 0
    String stones = "game(0,3,3)=9 move(4)=-1 move(0)=-1";
    fit(promise, stones, "o*****!", 8, 0);
    fit(promise, stones, "x*****!", 0, 8);
    fit(promise, stones, "o*****", 238, 10);
    fit(promise, stones, "x*****", 10, 238);
    fit(promise, stones, "o*x***", 2, 8);
    fit(promise, stones, "x*o***", 8, 2);
    fit(promise, stones, "ox****", 0, 0);
    fit(promise, stones, "o*x***!", 0, 0);
    fit(promise, stones, "......", 0, 0);
    fit(promise, stones, "*o****!|***x**!", 2, 32);
    // over the seam of a CYLINDER
    String seam = "game(2,2,4)=8 move(0)=-1";
    fit(promise, seam, "o*****!", 8, 0);
    fit(promise, seam, "*****o!", 128, 0);
    fit(promise, seam, "x*****", 0, 154);
    // a TRIANGLE
    String three = "game(1,3,3)=6 move(0)=-1";
    fit(promise, three, "****o*!", 4, 0);
    fit(promise, three, "*****o!", 2, 0);
    fit(promise, three, "x*****", 0, 6);
    // a pattern stays when a game begins
    String name = promise == 23 ? "fits" : "fitsAnew";
    run(promise, "tape(..####!)= pattern()=0 game(0,2,2)=4", name + "(0,0)=1 move(0)=-1",
        name + "(0,0)=0 undo()=0 " + name + "(0,1)=1 " + name + "(1,0)=IOOBE",
        name + "(-1,0)=IOOBE " + name + "(0,-1)=IOOBE " + name + "(0,2)=IOOBE");
    // each pattern has its own characters
    run(promise, "tape(..####!)= pattern()=0 tape(###..#!|******)= pattern()=1",
        "tape(oooooo)= pattern()=2",
        name + "(0,0)=1 " + name + "(1,0)=15 " + name + "(2,0)=0 " + name + "(3,0)=IOOBE");
  }

  private static void fits() {
    fitsEach(23);
  }

  private static void fitsAnew() {
    fitsEach(24);
  }

  private static void clocks() {
    run(25, "clocks(-1,1,1)=IAE clocks(3601,1,1)=IAE clocks(1,-1,1)=IAE clocks(1,10,1)=IAE",
        "clocks(1,1,0)=IAE clocks(1,1,61)=IAE clocks(0,0,1)=IAE clocks(1,1,-2147483648)=IAE",
        "clocks(-1,1,1)=IAE clocks(-5,5,1)=IAE clock(0,0)=0 clock(0,1)=0",
        "clocks(3600,9,60)=nothing clock(0,0)=3600 clock(1,0)=3600 clock(0,1)=9 clock(1,1)=9",
        "clock(0,2)=0 clock(1,2)=0 clocks(1,1,1)=ISE clocks(0,0,1)=IAE clock(0,0)=3600");
    run(25, "move(0)=-1 clocks(5,1,1)=ISE clocks(5,1,0)=IAE think(1)=ISE undo()=0",
        "clocks(5,0,1)=nothing clock(1,0)=5 clock(1,1)=0");
    run(25, "clocks(0,1,1)=nothing clock(0,0)=0 clock(0,1)=1 think(1)=1 clocks(1,1,1)=ISE",
        "game(0,2,2)=4 clock(0,1)=0 clocks(1,1,1)=nothing");
    // the same seconds for each game's own clocks: what was used does not stay
    run(25, "clocks(0,3,9)=nothing think(5)=-1 clock(0,2)=5 game(0,2,2)=4 clock(0,2)=0",
        "clocks(0,3,9)=nothing clock(0,2)=0 clock(0,1)=3");
  }

  private static void think() {
    run(26, "think(1)=ISE think(0)=IAE clocks(10,2,5)=nothing think(0)=IAE think(601)=IAE",
        "think(-1)=IAE think(10)=-1 clock(0,0)=0 clock(0,1)=2 think(4)=-1 clock(0,2)=4",
        "think(1)=-1 clock(0,1)=1 clock(0,2)=0 think(4)=-1 think(1)=1 told(4)=1 think(1)=ISE",
        "think(0)=IAE move(0)=ISE clock(1,0)=10 clock(1,1)=2");
    // without periods the first second more is too much
    run(26, "clocks(600,0,60)=nothing think(600)=-1 clock(0,0)=0 think(1)=1 clock(0,2)=1");
    run(26, "clocks(600,0,60)=nothing think(1)=-1 think(600)=1 clock(0,2)=1");
    // several periods at once, the last one not used up
    run(26, "clocks(1,4,5)=nothing think(18)=-1 clock(0,1)=1 clock(0,2)=2 move(0)=-1 clock(0,2)=0",
        "clock(0,1)=1 think(2)=-1 move(1)=-1 think(4)=-1 clock(0,2)=4 think(1)=1");
    // it is the player to move who thinks
    run(26, "clocks(9,1,5)=nothing move(0)=-1 think(3)=-1 clock(0,0)=9 clock(1,0)=6 think(11)=0",
        "told(4)=0 clock(1,1)=0 clock(1,2)=0");
    // a swap gives back too; taking back gives nothing
    run(26, "clocks(0,2,5)=nothing move(0)=-1 think(4)=-1 clock(1,2)=4 swap()=0 clock(1,2)=0",
        "think(3)=-1 clock(0,2)=3 undo()=1 clock(0,2)=3 clock(1,2)=0 think(2)=-1 undo()=0",
        "clock(0,2)=3 clock(1,2)=2 think(2)=-1 clock(0,1)=1 clock(0,2)=0");
    run(26, "clocks(20,1,5)=nothing think(7)=-1 move(0)=-1 think(2)=-1 undo()=0 clock(0,0)=13",
        "clock(1,0)=18");
    // over by joining
    run(26, "clocks(20,1,5)=nothing move(0)=-1 move(3)=-1 move(1)=0 think(1)=ISE undo()=2",
        "think(1)=-1");
  }

  private static void clock() {
    run(27, "clock(-1,0)=IOOBE clock(2,0)=IOOBE clock(2,3)=IOOBE clock(0,-1)=IAE clock(0,3)=IAE",
        "clock(1,2)=0 clocks(7,3,4)=nothing clock(0,0)=7 clock(1,1)=3 clock(1,2)=0",
        "think(9)=-1 clock(0,0)=0 clock(0,1)=3 clock(0,2)=2 clock(1,0)=7");
    // what was thought beyond all periods
    run(27, "clocks(3,2,4)=nothing think(600)=1 clock(0,0)=0 clock(0,1)=0 clock(0,2)=589");
    run(27, "clocks(0,2,4)=nothing think(7)=-1 clock(0,1)=1 clock(0,2)=3 think(10)=1",
        "clock(0,2)=9 clock(0,1)=0 clock(1,1)=2 clock(1,2)=0");
    run(27, "clocks(0,2,4)=nothing think(8)=1 clock(0,2)=0");
  }

  private static void person() {
    run(28, "person()=0 person()=1 person()=2 person()=3 person()=4 person()=5 person()=6",
        "person()=7 person()=8 ofPerson(9,0)=IOOBE person()=9 person()=ISE ofPerson(9,0)=1000",
        "ofPerson(9,1)=9 ofPerson(4,1)=4 ofPerson(9,2)=0 ofPerson(9,3)=0 game(0,2,2)=4",
        "person()=ISE");
  }

  private static void record() {
    run(29, "record(0,1)=IOOBE person()=0 record(0,0)=IAE record(0,1)=IOOBE record(1,0)=IOOBE",
        "record(-1,0)=IOOBE record(5,5)=IOOBE person()=1 record(0,1)=ISE record(1,1)=IAE",
        "move(0)=-1 move(3)=-1 move(1)=0 record(0,0)=IAE record(0,1)=1016 record(0,1)=ISE",
        "record(1,1)=IAE record(0,2)=IOOBE ofPerson(0,0)=1016 ofPerson(1,0)=984",
        "ofPerson(0,2)=1 ofPerson(1,3)=1");
    // 32 more: 16 less 1; then 62 more: 16 less 2
    run(29, "person()=0 person()=1", WON_BY_0, "record(0,1)=1016", WON_BY_0, "record(0,1)=1031",
        WON_BY_0, "record(0,1)=1045",
        // then 90 fewer: 16 and 4, for the 25th part of -90 is -4 when rounded down
        WON_BY_1, "record(0,1)=975 ofPerson(0,0)=1025");
    // 10 fewer: the 25th part of -10 is -1 when rounded down
    run(29, "person()=0 person()=1 person()=2", WON_BY_0, "record(0,1)=1016",
        WON_BY_0, "record(2,0)=1017 ofPerson(0,0)=999 ofPerson(1,0)=984",
        // 15 fewer, won by the player 1
        WON_BY_1, "record(0,1)=1001 ofPerson(0,0)=982");
    atTheEdges();
    // lost on time
    run(29, "person()=0 person()=1 clocks(1,0,1)=nothing think(2)=1 record(0,1)=1016",
        "ofPerson(1,0)=1016 ofPerson(1,1)=0");
    // the ladder: 3 beats 1, 0 beats 2, 2 beats 3
    run(29, "person()=0 person()=1 person()=2 person()=3", WON_BY_0, "record(3,1)=1016",
        "ofPerson(0,1)=0 ofPerson(3,1)=1 ofPerson(1,1)=2 ofPerson(2,1)=3", WON_BY_1,
        "record(2,0)=1016 ofPerson(0,1)=0 ofPerson(2,1)=3", WON_BY_0, "record(2,3)=1002",
        "ofPerson(0,1)=0 ofPerson(2,1)=1 ofPerson(3,1)=2 ofPerson(1,1)=3");
  }

  /** At least 1, at most 31. */
  private static void atTheEdges() {
    StringBuilder many = new StringBuilder("person()=0 person()=1 ");
    int one = 1000, other = 1000;
    for (int i = 0; i < 80; i++) {
      int change = Math.max(1, 16 - (one - other) / 25);
      one += change;
      other -= change;
      many.append(WON_BY_0).append(" record(0,1)=").append(one).append(' ');
    }
    that(29, one - other >= 425, "far enough apart");
    many.append(WON_BY_1).append(" record(0,1)=").append(other + 31);
    many.append(" ofPerson(0,0)=").append(one - 31);
    run(29, many.toString());
  }

  private static void ofPerson() {
    run(30, "ofPerson(0,0)=IOOBE ofPerson(0,9)=IOOBE person()=0 ofPerson(0,-1)=IAE",
        "ofPerson(0,4)=IAE ofPerson(-1,0)=IOOBE ofPerson(1,0)=IOOBE ofPerson(0,0)=1000",
        "ofPerson(0,1)=0 ofPerson(0,2)=0 ofPerson(0,3)=0 person()=1",
        "move(0)=-1 move(1)=-1 move(3)=-1 move(2)=1 record(0,1)=1016",
        "ofPerson(1,0)=1016 ofPerson(1,1)=0 ofPerson(1,2)=1 ofPerson(1,3)=0",
        "ofPerson(0,0)=984 ofPerson(0,1)=1 ofPerson(0,2)=0 ofPerson(0,3)=1");
  }
}
