import java.lang.reflect.Constructor;
import java.lang.reflect.Field;
import java.lang.reflect.Method;
import java.lang.reflect.Modifier;
import java.nio.file.Files;
import java.nio.file.Path;
import java.util.Arrays;
import java.util.TreeSet;

/** The class has the members that the document's public face lists, and no other that is not private. */
public final class FaceTest {
  public static void main(String[] args) throws Exception {
    TreeSet<String> due = dueMembers(Files.readString(Path.of("../shared/DOC.md")));
    TreeSet<String> found = foundMembers();
    TreeSet<String> missing = new TreeSet<>(due), surplus = new TreeSet<>(found);
    missing.removeAll(found);
    surplus.removeAll(due);
    for (String member : missing) System.out.println("missing: " + member);
    for (String member : surplus) System.out.println("not in the document: " + member);
    boolean isFinal = Modifier.isFinal(GuestHall.class.getModifiers()) && Modifier.isPublic(GuestHall.class.getModifiers());
    System.out.println(due.size() + " members in the document, " + found.size() + " in the class");
    if (due.size() < 59 || !isFinal || !missing.isEmpty() || !surplus.isEmpty()) System.exit(1);
  }

  private static TreeSet<String> dueMembers(String document) {
    TreeSet<String> due = new TreeSet<>();
    String face = document.substring(document.indexOf("```java"), document.indexOf("```\n", document.indexOf("```java") + 7));
    for (String line : face.split("\n")) {
      String text = line.trim().replace(";", "");
      if (text.startsWith("public static final int ")) {
        for (String one : text.substring(24).split(", ")) due.add(one);
      } else if (text.startsWith("public ") && text.contains("(")) {
        due.add(text.substring(7).replaceAll("(int|boolean) \\w+(?=[,)])", "$1"));
      }
    }
    return due;
  }

  private static TreeSet<String> foundMembers() throws Exception {
    TreeSet<String> found = new TreeSet<>();
    for (Field field : GuestHall.class.getDeclaredFields()) {
      if (!Modifier.isPrivate(field.getModifiers())) found.add(field.getName() + " = " + field.getInt(null));
    }
    for (Constructor<?> one : GuestHall.class.getDeclaredConstructors()) {
      if (!Modifier.isPrivate(one.getModifiers())) found.add("GuestHall(" + names(one.getParameterTypes()) + ")");
    }
    for (Method method : GuestHall.class.getDeclaredMethods()) {
      if (Modifier.isPrivate(method.getModifiers()) || method.isSynthetic()) continue;
      String thrown = names(method.getExceptionTypes());
      found.add(method.getReturnType() + " " + method.getName() + "(" + names(method.getParameterTypes()) + ")" + (thrown.isEmpty() ? "" : " throws " + thrown));
    }
    return found;
  }

  private static String names(Class<?>[] types) {
    return String.join(", ", Arrays.stream(types).map(Class::getSimpleName).toArray(String[]::new));
  }
}
