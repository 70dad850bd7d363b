import java.lang.reflect.Constructor;
import java.lang.reflect.Field;
import java.lang.reflect.Method;
import java.lang.reflect.Modifier;
import java.util.TreeSet;

/** The face is the document's, and nothing beside it can be seen (rules 1 and 5 of LANGUAGE.md). */
public final class FilterRowsFaceTest {
  private static final String[] METHODS = {
    "int put(int,int,int,int) IndexOutOfBoundsException IllegalArgumentException",
    "int paint(int,int)",
    "int at(int,int,int) IndexOutOfBoundsException",
    "int pass(int,int) IllegalArgumentException",
    "int filtered(int,int,int,int) IllegalArgumentException IndexOutOfBoundsException",
    "int worth(int,int,int,int) IllegalArgumentException IndexOutOfBoundsException",
    "int encode(int,int,boolean) IllegalArgumentException",
    "int byteAt(int) IndexOutOfBoundsException",
    "int chosen(int) IllegalArgumentException",
    "int feed(int) IllegalArgumentException UnsupportedOperationException",
    "int passOn() UnsupportedOperationException",
    "int decode(boolean)",
    "int clean() IllegalStateException",
    "int colour(int) IllegalArgumentException UnsupportedOperationException",
    "int order(int) IndexOutOfBoundsException",
    "int told(int)",
    "void clear()",
  };

  public static void main(String[] args) {
    Class<FilterRows> face = FilterRows.class;
    Check.same("modifiers of the class", face.getModifiers(), Modifier.PUBLIC | Modifier.FINAL);
    methodsAreTheDocuments(face);
    constructorsAreTheDocuments(face);
    fieldsAreHidden(face);
    for (Class<?> inside : face.getDeclaredClasses()) {
      Check.same(inside + " is static", inside.getModifiers() & Modifier.STATIC, Modifier.STATIC);
      Check.same(inside + " is hidden",
          inside.getModifiers() & (Modifier.PUBLIC | Modifier.PROTECTED), 0);
      staticsAreFinal(inside);
    }
    Check.end();
  }

  private static void methodsAreTheDocuments(Class<?> face) {
    TreeSet<String> seen = new TreeSet<>();
    TreeSet<String> names = new TreeSet<>();
    for (Method method : face.getDeclaredMethods()) {
      if (Modifier.isPrivate(method.getModifiers())) {
        continue;
      }
      Check.same(method + " is public", method.getModifiers(), Modifier.PUBLIC);
      seen.add(written(method));
      names.add(method.getName());
    }
    Check.sameText("methods", seen.toString(),
        new TreeSet<>(java.util.List.of(METHODS)).toString());
    for (Method method : face.getDeclaredMethods()) {
      boolean hidden = Modifier.isPrivate(method.getModifiers());
      Check.same(method + " bears a public name",
          hidden && names.contains(method.getName()) ? 1 : 0, 0);
    }
  }

  private static String written(Method method) {
    StringBuilder text = new StringBuilder();
    text.append(method.getReturnType()).append(' ').append(method.getName()).append('(');
    String between = "";
    for (Class<?> type : method.getParameterTypes()) {
      text.append(between).append(type);
      between = ",";
    }
    text.append(')');
    for (Class<?> type : method.getExceptionTypes()) {
      text.append(' ').append(type.getSimpleName());
    }
    return text.toString();
  }

  private static void constructorsAreTheDocuments(Class<?> face) {
    Constructor<?>[] all = face.getDeclaredConstructors();
    Check.same("constructors", all.length, 1);
    Check.sameText("the constructor", all[0].toString(), "public FilterRows(int,int,int,int)");
  }

  private static void fieldsAreHidden(Class<?> face) {
    for (Field field : face.getDeclaredFields()) {
      boolean constant = field.getName().equals("NONE");
      Check.same(field + " is seen", field.getModifiers() & (Modifier.PUBLIC | Modifier.PRIVATE),
          constant ? Modifier.PUBLIC : Modifier.PRIVATE);
    }
    staticsAreFinal(face);
  }

  private static void staticsAreFinal(Class<?> of) {
    for (Field field : of.getDeclaredFields()) {
      boolean changes = Modifier.isStatic(field.getModifiers())
          && !Modifier.isFinal(field.getModifiers());
      Check.same(field + " may change", changes ? 1 : 0, 0);
    }
  }
}
