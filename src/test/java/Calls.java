import java.lang.reflect.InvocationTargetException;
import java.lang.reflect.Method;

/** Calls of the face by name, on a Linkcourt or on an Oracle. */
final class Calls {
  private Calls() {
  }

  static Method of(String name) {
    for (Method method : Linkcourt.class.getDeclaredMethods()) {
      if (method.getName().equals(name)) {
        return method;
      }
    }
    throw new IllegalArgumentException(name);
  }

  static String text(String name, long... arguments) {
    StringBuilder text = new StringBuilder(name).append('(');
    for (int i = 0; i < arguments.length; i++) {
      text.append(i == 0 ? "" : ", ").append(arguments[i]);
    }
    return text.append(')').toString();
  }

  /** The answer as a text (a boolean counts 1 or 0), or "throws." and what was thrown. */
  static String answer(Object court, String name, long... arguments) {
    Method face = of(name);
    Class<?>[] types = face.getParameterTypes();
    if (types.length != arguments.length) {
      throw new IllegalArgumentException(text(name, arguments));
    }
    Object[] given = new Object[types.length];
    for (int i = 0; i < types.length; i++) {
      given[i] = types[i] == long.class ? (Object) arguments[i] : (Object) (int) arguments[i];
    }
    try {
      Method method = court.getClass().getDeclaredMethod(name, types);
      return shown(method.invoke(court, given));
    } catch (InvocationTargetException e) {
      return "throws." + e.getCause().getClass().getSimpleName();
    } catch (NoSuchMethodException | IllegalAccessException e) {
      throw new IllegalStateException(e);
    }
  }

  private static String shown(Object answer) {
    if (answer == null) {
      return "nothing";
    }
    return answer instanceof Boolean ? ((Boolean) answer ? "1" : "0") : answer.toString();
  }
}
