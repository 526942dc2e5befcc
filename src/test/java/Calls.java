import java.lang.reflect.InvocationTargetException;
import java.lang.reflect.Method;
import java.lang.reflect.Modifier;
import java.util.HashMap;
import java.util.Map;

/** Calls of the face by name, on a Linkcourt or on an Oracle. */
final class Calls {
  private static final Map<String, Method> OF_LINKCOURT = methods(Linkcourt.class);
  private static final Map<String, Method> OF_ORACLE = methods(Oracle.class);

  private Calls() {
  }

  private static Map<String, Method> methods(Class<?> one) {
    Map<String, Method> methods = new HashMap<>();
    for (Method method : one.getDeclaredMethods()) {
      if (!Modifier.isPrivate(method.getModifiers())) {
        methods.put(method.getName(), method);
      }
    }
    return methods;
  }

  static String text(String name, long... arguments) {
    StringBuilder text = new StringBuilder(name).append('(');
    for (int i = 0; i < arguments.length; i++) {
      text.append(i == 0 ? "" : ", ").append(arguments[i]);
    }
    return text.append(')').toString();
  }

  /** The answer as a text (a boolean counts 1 or 0), or "throws." and what was thrown. */
  static String answer(Object court, String name, long... arguments) {
    Method method = (court instanceof Oracle ? OF_ORACLE : OF_LINKCOURT).get(name);
    Class<?>[] types = method == null ? new Class<?>[0] : method.getParameterTypes();
    if (method == null || types.length != arguments.length) {
      throw new IllegalArgumentException("no call of the face: " + text(name, arguments));
    }
    Object[] given = new Object[types.length];
    for (int i = 0; i < types.length; i++) {
      given[i] = types[i] == long.class ? (Object) arguments[i] : (Object) (int) arguments[i];
    }
    try {
      return shown(method.invoke(court, given));
    } catch (InvocationTargetException e) {
      return "throws." + e.getCause().getClass().getSimpleName();
    } catch (IllegalAccessException e) {
      throw new IllegalStateException(e);
    }
  }

  private static String shown(Object answer) {
    if (answer == null) {
      return "nothing";
    }
    return answer instanceof Boolean ? ((Boolean) answer ? "1" : "0") : answer.toString();
  }
}
