import java.lang.reflect.Constructor;
import java.lang.reflect.Field;
import java.lang.reflect.Member;
import java.lang.reflect.Method;
import java.lang.reflect.Modifier;
import java.util.ArrayList;
import java.util.Arrays;
import java.util.Collections;
import java.util.List;
import java.util.Set;
import java.util.TreeSet;

/** The face is the document's; what of ../shared/LANGUAGE.md compiled classes show is kept. */
public final class FaceTest {
  private static final String[] FACE = {
    "int game(int, int, int) IllegalArgumentException",
    "int move(int) IllegalArgumentException IllegalStateException IndexOutOfBoundsException",
    "int swap() IllegalStateException",
    "int undo() IllegalStateException",
    "int told(int) IllegalArgumentException",
    "int cell(int, int) IllegalArgumentException IndexOutOfBoundsException",
    "int neighbour(int, int) IllegalArgumentException IndexOutOfBoundsException",
    "int best() IllegalStateException",
    "long wins() IllegalStateException",
    "int lasts() IllegalStateException",
    "long dead() IllegalStateException",
    "long carrier(int, int, int) IllegalArgumentException IllegalStateException"
        + " IndexOutOfBoundsException",
    "int answer(int, int, int, int) IllegalArgumentException IllegalStateException"
        + " IndexOutOfBoundsException",
    "boolean gaveAway(int) IllegalArgumentException IllegalStateException"
        + " IndexOutOfBoundsException",
    "int far(int) IllegalStateException IndexOutOfBoundsException",
    "int plays(int, int) IllegalArgumentException IllegalStateException",
    "long playedOut(int) IllegalArgumentException IllegalStateException",
    "int type(long, int) IllegalArgumentException IllegalStateException",
    "int wipe()",
    "int fault()",
    "int pattern() IllegalArgumentException IllegalStateException",
    "long fits(int, int) IndexOutOfBoundsException",
    "long fitsAnew(int, int) IndexOutOfBoundsException",
    "void clocks(int, int, int) IllegalArgumentException IllegalStateException",
    "int think(int) IllegalArgumentException IllegalStateException",
    "int clock(int, int) IllegalArgumentException IndexOutOfBoundsException",
    "int person() IllegalStateException",
    "int record(int, int) IllegalArgumentException IllegalStateException"
        + " IndexOutOfBoundsException",
    "int ofPerson(int, int) IllegalArgumentException IndexOutOfBoundsException"
  };
  private static final List<Class<?>> STATIC_TYPES = Arrays.asList(int.class, long.class,
      boolean.class, char.class, String.class, int[].class, long[].class, char[].class,
      byte[].class);

  private static int wrong = 0;

  private FaceTest() {
  }

  public static void main(String[] args) {
    List<Class<?>> classes = new ArrayList<>(Arrays.asList(Linkcourt.class.getDeclaredClasses()));
    that(Modifier.isFinal(Linkcourt.class.getModifiers()), "the class is final");
    that(classes.size() + 1 <= 14, "some twelve classes at most");
    checkFace();
    Set<String> names = new TreeSet<>();
    for (Method method : Linkcourt.class.getDeclaredMethods()) {
      if (Modifier.isPublic(method.getModifiers())) {
        names.add(method.getName());
      }
    }
    classes.add(Linkcourt.class);
    for (Class<?> one : classes) {
      checkClass(one, names);
    }
    System.out.println("FaceTest: " + wrong + " things are not as due");
    if (wrong != 0) {
      System.exit(1);
    }
  }

  private static void checkFace() {
    List<String> due = new ArrayList<>(Arrays.asList(FACE)), got = new ArrayList<>();
    for (Method method : Linkcourt.class.getDeclaredMethods()) {
      that(isPublicOrPrivate(method), method + " is public or private");
      if (Modifier.isPublic(method.getModifiers())) {
        got.add(text(method));
      }
    }
    Collections.sort(due);
    Collections.sort(got);
    that(due.equals(got), "the methods are " + got);
    Constructor<?>[] constructors = Linkcourt.class.getDeclaredConstructors();
    that(constructors.length == 1 && constructors[0].getParameterCount() == 0, "one constructor");
    Set<String> constants = new TreeSet<>();
    for (Field field : Linkcourt.class.getDeclaredFields()) {
      that(isPublicOrPrivate(field), field + " is public or private");
      if (Modifier.isPublic(field.getModifiers())) {
        constants.add(field.getName());
      }
    }
    that(constants.toString().equals("[CYLINDER, NONE, RHOMB, TRIANGLE]"), "constants");
  }

  private static boolean isPublicOrPrivate(Member member) {
    return Modifier.isPublic(member.getModifiers()) || Modifier.isPrivate(member.getModifiers());
  }

  private static String text(Method method) {
    StringBuilder text = new StringBuilder(method.getReturnType().getSimpleName());
    text.append(' ').append(method.getName()).append('(');
    for (Class<?> type : method.getParameterTypes()) {
      text.append(text.charAt(text.length() - 1) == '(' ? "" : ", ").append(type.getSimpleName());
    }
    Set<String> thrown = new TreeSet<>();
    for (Class<?> type : method.getExceptionTypes()) {
      thrown.add(type.getSimpleName());
    }
    text.append(')');
    for (String name : thrown) {
      text.append(' ').append(name);
    }
    return text.toString();
  }

  private static void checkClass(Class<?> one, Set<String> face) {
    int fields = 0;
    for (Field field : one.getDeclaredFields()) {
      int modifiers = field.getModifiers();
      fields += Modifier.isStatic(modifiers) ? 0 : 1;
      that(!Modifier.isStatic(modifiers) || Modifier.isFinal(modifiers) && isConstant(field),
          field + " is a constant");
    }
    that(fields <= 20, one + " has at most some twenty fields");
    that(one == Linkcourt.class || !Modifier.isPublic(one.getModifiers())
        && !Modifier.isProtected(one.getModifiers()), one + " is private or package-visible");
    for (Method method : one.getDeclaredMethods()) {
      that(method.getParameterCount() <= 7, method + " has at most seven parameters");
      that(!Modifier.isPrivate(method.getModifiers()) || !face.contains(method.getName()),
          method + " has a name of its own");
    }
  }

  private static boolean isConstant(Field field) {
    Class<?> type = field.getType();
    return STATIC_TYPES.contains(type) || field.isEnumConstant() || field.isSynthetic()
        || type.isArray() && type.getComponentType().isEnum();
  }

  private static void that(boolean holds, String what) {
    if (!holds) {
      wrong++;
      System.out.println("not so: " + what);
    }
  }
}
