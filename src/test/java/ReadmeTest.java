import java.io.IOException;
import java.lang.reflect.Method;
import java.lang.reflect.Modifier;
import java.nio.file.Files;
import java.nio.file.Path;
import java.util.List;
import java.util.regex.Matcher;
import java.util.regex.Pattern;
import java.util.stream.Collectors;
import java.util.stream.Stream;

/** What README.md shows is so: each call's answer, each call of the face, each test. */
public final class ReadmeTest {
  private static final Pattern CALL = Pattern.compile("x\\.(\\w+)\\(([^)]*)\\); +// ([^:]+): .+");
  private static int wrong = 0;

  private static void check(boolean holds, String what) {
    if (!holds) {
      wrong++;
      System.out.println("README.md: " + what);
    }
  }

  private static Object number(String text) {
    return text.equals("ThinCoats.NONE") ? (Object) ThinCoats.NONE : (Object) Integer.decode(text);
  }

  private static String answer(ThinCoats x, String name, String arguments) throws ReflectiveOperationException {
    Object[] numbers = arguments.isBlank() ? new Object[0]
        : Stream.of(arguments.split(", *")).map(ReadmeTest::number).toArray();
    for (Method m : ThinCoats.class.getDeclaredMethods()) {
      boolean open = Modifier.isPublic(m.getModifiers());
      if (open && m.getName().equals(name) && m.getParameterCount() == numbers.length) {
        return m.invoke(x, numbers).toString();
      }
    }
    return "nothing, there is no such call";
  }

  private static int calls(String readme) throws ReflectiveOperationException {
    ThinCoats x = null;
    int many = 0;
    boolean within = false;
    for (String line : readme.split("\n")) {
      if (line.startsWith("```")) within = line.equals("```java");
      if (!within || line.startsWith("```")) continue;
      if (line.equals("ThinCoats x = new ThinCoats();")) {
        x = new ThinCoats();
        continue;
      }
      Matcher call = CALL.matcher(line);
      boolean told = call.matches();
      check(told && x != null, "a line without a call and its answer: " + line);
      if (!told || x == null) continue;
      String got = answer(x, call.group(1), call.group(2));
      check(got.equals(call.group(3)), line + " (the answer is " + got + ")");
      many++;
    }
    return many;
  }

  private static void names(String readme) throws IOException {
    for (Method m : ThinCoats.class.getDeclaredMethods()) {
      boolean open = Modifier.isPublic(m.getModifiers());
      check(!open || readme.contains("`" + m.getName() + "`"), "no word of " + m.getName());
    }
    try (Stream<Path> files = Files.list(Path.of("src/test/java"))) {
      List<String> tests = files.map(f -> f.getFileName().toString()).filter(f -> f.endsWith("Test.java"))
          .collect(Collectors.toList());
      for (String t : tests) check(readme.contains("`" + t.replace(".java", "") + "`"), "no word of " + t);
    }
    check(readme.contains("\n.ci/run\n"), "no word of how the tests are run");
  }

  public static void main(String[] args) throws IOException, ReflectiveOperationException {
    String readme = Files.readString(Path.of("README.md"));
    check(calls(readme) > 20, "it shows how the class is used");
    names(readme);
    System.out.println(wrong == 0 ? "README.md is as due" : wrong + " things are not as due");
    if (wrong != 0) System.exit(1);
  }
}
