import com.sun.management.ThreadMXBean;
import java.lang.management.ManagementFactory;
import java.lang.reflect.Array;
import java.lang.reflect.Field;
import java.lang.reflect.Modifier;
import java.util.ArrayDeque;
import java.util.Collections;
import java.util.Deque;
import java.util.IdentityHashMap;
import java.util.Set;

/**
 * All calls of one run live in one room: a new object makes all its rows at once, and no call that
 * answers makes anything more, the dearest ones least of all.
 */
public final class RoomTest {
  private static final int MOST_OBJECTS = 100, MOST_ELEMENTS = 60000;
  private static final ThreadMXBean THREADS = (ThreadMXBean) ManagementFactory.getThreadMXBean();

  private static int wrong = 0;
  private int objects = 0, elements = 0;

  private RoomTest() {
  }

  public static void main(String[] args) throws IllegalAccessException {
    Linkcourt court = new Linkcourt();
    RoomTest first = new RoomTest();
    first.count(court);
    that(first.objects <= MOST_OBJECTS && first.elements <= MOST_ELEMENTS,
        "a new object has " + first.objects + " objects with " + first.elements + " elements");
    useAll(new Linkcourt()); // so that all classes are loaded
    long before = made();
    useAll(court);
    long more = made() - before;
    that(more == 0, "calls made objects of " + more + " bytes");
    RoomTest last = new RoomTest();
    last.count(court);
    that(last.objects == first.objects && last.elements == first.elements,
        "a used object has " + last.objects + " objects with " + last.elements + " elements");
    System.out.println("RoomTest: " + first.objects + " objects with " + first.elements
        + " fields and elements, " + wrong + " things not as due");
    if (wrong != 0) {
      System.exit(1);
    }
  }

  private static long made() {
    return THREADS.getThreadAllocatedBytes(Thread.currentThread().getId());
  }

  /** Calls of each kind, none of which is refused. */
  private static void useAll(Linkcourt court) {
    for (int i = 0; i < 3; i++) {
      court.person();
      court.type(0x7c2e2e2e2e2e2eL, 7);
      court.type(0x212a2a2a2a2a6fL, 7);
      court.fault();
      court.pattern();
      court.type('.', 1);
      court.wipe();
      useBestPlay(court, court.game(i, 3, 3));
      useLarge(court, i);
    }
  }

  private static void useBestPlay(Linkcourt court, int cells) {
    court.clocks(9, 9, 9);
    court.carrier(1, 100, 101);
    court.answer(0, 101, 100, 0);
    for (int cell = 0; cell < cells && court.told(4) == Linkcourt.NONE; cell++) {
      court.think(cell + 1);
      court.best();
      court.wins();
      court.lasts();
      court.dead();
      court.move((5 * cell + 1) % cells);
      court.gaveAway(cell);
      court.clock(0, 2);
    }
    if (court.told(2) > 0 && court.told(4) != Linkcourt.NONE) {
      court.undo();
    }
  }

  private static void useLarge(Linkcourt court, int kind) {
    court.game(kind, 6, 6);
    court.move(9);
    court.swap();
    court.move(10);
    court.far(0);
    court.plays(5, 50);
    court.playedOut(7);
    court.cell(10, 3);
    court.neighbour(10, 3);
    court.fits(0, 0);
    court.fitsAnew(0, 1);
    court.undo();
    court.game(kind, 2, kind == 2 ? 3 : 2);
    court.clocks(0, 1, 1);
    court.think(1);
    if (court.person() > 0) {
      court.record(0, 1);
      court.ofPerson(0, 0);
    }
  }

  private static void that(boolean holds, String what) {
    if (!holds) {
      wrong++;
      System.out.println("not so: " + what);
    }
  }

  /** All that hangs together with an object by its fields and elements. */
  private void count(Object from) throws IllegalAccessException {
    Set<Object> seen = Collections.newSetFromMap(new IdentityHashMap<>());
    Deque<Object> todo = new ArrayDeque<>();
    seen.add(from);
    todo.add(from);
    while (!todo.isEmpty()) {
      Object one = todo.poll();
      objects++;
      if (one.getClass().isArray()) {
        elements += Array.getLength(one);
        for (int i = 0; one instanceof Object[] && i < Array.getLength(one); i++) {
          note(Array.get(one, i), seen, todo);
        }
      } else {
        for (Field field : one.getClass().getDeclaredFields()) {
          if (!Modifier.isStatic(field.getModifiers())) {
            elements++;
            field.setAccessible(true);
            note(field.getType().isPrimitive() ? null : field.get(one), seen, todo);
          }
        }
      }
    }
  }

  private static void note(Object one, Set<Object> seen, Deque<Object> todo) {
    if (one != null && seen.add(one)) {
      todo.add(one);
    }
  }
}
