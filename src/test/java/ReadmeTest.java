import java.io.ByteArrayOutputStream;
import java.io.PrintStream;
import java.lang.reflect.Method;
import java.lang.reflect.Modifier;
import java.nio.charset.StandardCharsets;
import java.nio.file.Files;
import java.nio.file.Path;

/** README.md shows Example as it is and what it prints, and names each call of the class. */
public final class ReadmeTest extends Checks {
  public static void main(String[] args) throws Exception {
    String readme = Files.readString(Path.of("README.md"));
    String example = Files.readString(Path.of("src/test/java/Example.java"));
    test("the example", () -> same(example, block(readme, "java"), "README.md"));
    test("what the example prints", () -> same(printed(), block(readme, "text"), "README.md"));
    test("the calls", () -> {
      for (Method one : GuestHall.class.getDeclaredMethods()) {
        if (Modifier.isPublic(one.getModifiers())) yes(readme.contains("`" + one.getName() + "`"), "README.md: " + one.getName());
      }
    });
    report();
  }

  /** The text between the lines that begin and end the block of this kind. */
  private static String block(String page, String kind) {
    String begin = "\n```" + kind + "\n";
    int from = page.indexOf(begin);
    int to = from < 0 ? -1 : page.indexOf("```\n", from + begin.length());
    return to < 0 ? "no block " + kind : page.substring(from + begin.length(), to);
  }

  private static String printed() {
    PrintStream before = System.out;
    ByteArrayOutputStream caught = new ByteArrayOutputStream();
    System.setOut(new PrintStream(caught, true, StandardCharsets.UTF_8));
    try {
      Example.main(new String[0]);
    } finally {
      System.setOut(before);
    }
    return caught.toString(StandardCharsets.UTF_8).replace("\r\n", "\n");
  }
}
