import java.lang.reflect.InvocationTargetException;
import java.lang.reflect.Method;
import java.lang.reflect.Modifier;
import java.util.HashMap;
import java.util.Map;

/** Calls of the face by name, on a Linkcourt or on an Oracle. */
final class Calls {
  private static final Map<String, Method> FACE = new HashMap<>();
  private static final Map<String, Method> OF_ORACLE = new HashMap<>();

  static {
    for (Method method : Linkcourt.class.getDeclaredMethods()) {
      if (Modifier.isPublic(method.getModifiers())) {
        FACE.put(method.getName(), method);
        OF_ORACLE.put(method.getName(), ofOracle(method));
      }
    }
  }

  private Calls() {
  }

  private static Method ofOracle(Method face) {
    try {
      return Oracle.class.getDeclaredMethod(face.getName(), face.getParameterTypes());
    } catch (NoSuchMethodException e) {
      throw new IllegalStateException(e);
    }
  }

  static String text(String name, long... arguments) {
    StringBuilder text = new StringBuilder(name).append('(');
    for (int i = 0; i < arguments.length; i++) {
      text.append(i == 0 ? "" : ", ").append(arguments[i]);
    }
    return text.append(')').toString();
  }

  /** The answer as a text (a boolean counts 1 or 0), or "throws." and what was thrown. */
  static String answer(Object court, String name, long... arguments) {
    Method method = (court instanceof Oracle ? OF_ORACLE : FACE).get(name);
    Class<?>[] types = method == null ? new Class<?>[0] : method.getParameterTypes();
    if (method == null || types.length != arguments.length) {
      throw new IllegalArgumentException("no call of the face: " + text(name, arguments));
    }
    Object[] given = new Object[types.length];
    for (int i = 0; i < types.length; i++) {
      given[i] = types[i] == long.class ? (Object) arguments[i] : (Object) (int) arguments[i];
    }
    try {
      return shown(method.invoke(court, given));
    } catch (InvocationTargetException e) {
      return "throws." + e.getCause().getClass().getSimpleName();
    } catch (IllegalAccessException e) {
      throw new IllegalStateException(e);
    }
  }

  private static String shown(Object answer) {
    if (answer == null) {
      return "nothing";
    }
    return answer instanceof Boolean ? ((Boolean) answer ? "1" : "0") : answer.toString();
  }
}
