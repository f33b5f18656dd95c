import java.io.IOException;
import java.lang.management.ManagementFactory;
import java.lang.reflect.Constructor;
import java.lang.reflect.Field;
import java.lang.reflect.Method;
import java.lang.reflect.Modifier;
import java.nio.file.Files;
import java.nio.file.Path;
import java.util.List;
import java.util.Set;
import java.util.TreeSet;
import java.util.regex.Matcher;
import java.util.regex.Pattern;

/** The form of the class: its face, some rules of LANGUAGE.md that can be seen in its text, and its room. */
public final class FormTest {
  private static final String FACE = """
      int feed(int,int,int,int,int)
      boolean end(int)
      int stack()
      int fault(int)
      boolean index(int,int,int)
      boolean between(int,int)
      int material(int,int)
      int layer(int,int)
      int put(int,int,int,int)
      int cut(int)
      boolean turn()
      boolean undo()
      int matrix(int,int,int)
      long light(int,int,int)
      int share(int)
      long through(int)
      long admittance(int,int,int)
      int marks(int)
      int extreme(int)
      int below(int,int,int)
      long worst(int,int,int)
      long corner(int,int,int,int)
      int tender(int,int)
      int wanted(int,int,int,int)
      int ways(int,int,int,int)
      int tune(int,int)
      int add(int,int,int)
      int merge(int)
      int period(int)
      int show()
      int out(int)
      int spare(int)
      int look(int)
      """;
  private static int wrong = 0;

  private static void check(boolean holds, String what) {
    if (!holds) {
      wrong++;
      System.out.println("not so: " + what);
    }
  }

  private static void face() {
    check(Modifier.isFinal(ThinCoats.class.getModifiers()), "the class is final");
    check(ThinCoats.NONE == -1, "NONE is -1");
    Set<String> got = new TreeSet<>();
    Set<String> names = new TreeSet<>();
    for (Method m : ThinCoats.class.getDeclaredMethods()) {
      if (Modifier.isPrivate(m.getModifiers())) continue;
      StringBuilder text = new StringBuilder(m.getReturnType() + " " + m.getName() + "(");
      for (Class<?> p : m.getParameterTypes()) text.append(text.charAt(text.length() - 1) == '(' ? "" : ",").append(p);
      got.add(text.append(")").toString());
      names.add(m.getName());
    }
    check(got.equals(new TreeSet<>(List.of(FACE.strip().split("\n")))), "the methods are those of the document: " + got);
    for (Method m : ThinCoats.class.getDeclaredMethods()) {
      boolean hidden = Modifier.isPrivate(m.getModifiers());
      check(!hidden || !names.contains(m.getName()), "no private method is called " + m.getName());
    }
    for (Field f : ThinCoats.class.getDeclaredFields()) {
      check(Modifier.isPrivate(f.getModifiers()) || f.getName().equals("NONE"), "private: " + f);
      check(!Modifier.isStatic(f.getModifiers()) || Modifier.isFinal(f.getModifiers()), "final: " + f);
    }
    Constructor<?>[] made = ThinCoats.class.getDeclaredConstructors();
    check(made.length == 1 && made[0].getParameterCount() == 0, "one constructor");
    for (Class<?> c : ThinCoats.class.getDeclaredClasses()) {
      check(Modifier.isStatic(c.getModifiers()), "static: " + c);
      check(c.getDeclaredFields().length <= 22, "few fields: " + c);
    }
    check(ThinCoats.class.getDeclaredClasses().length <= 11, "twelve classes at most");
  }

  private static void text() throws IOException {
    String source = Files.readString(Path.of("src/main/java/ThinCoats.java"));
    String code = source.replaceAll("(?s)/\\*.*?\\*/", "").replaceAll("//.*", "");
    String[] never = {"import ", "\\bpackage ", "->", "::", "Exact\\(", "Float\\.", "Double\\.", "\\btry\\b", "\\bcatch\\b",
      "\\bfinally\\b", "\\bsynchronized\\b", "\\bassert\\b", "\\bthrow\\b", "\\bprotected\\b", "System\\.(?!arraycopy)",
      "\\bwhile\\b", "static \\{", "Long\\.(?!compare\\b)", "Math\\.(?!min\\b|max\\b|abs\\b)"};
    for (String n : never) check(!Pattern.compile(n).matcher(code).find(), "without " + n);
    check(code.chars().allMatch(c -> c < 128), "plain signs alone");
    String[] lines = source.split("\n");
    Matcher head = Pattern.compile("(?m)^( +)(?:(?:public|private|static|final) )*[\\w\\[\\]]+ \\w+\\([^)]*\\) \\{$").matcher(source);
    while (head.find()) {
      int from = (int) source.substring(0, head.start()).chars().filter(c -> c == '\n').count();
      int to = from;
      while (!lines[to].equals(head.group(1) + "}")) to++;
      check(to - from < 60, "at most sixty lines: " + lines[from].strip());
      check(head.group().chars().filter(c -> c == ',').count() < 7, "at most seven parameters: " + lines[from].strip());
    }
  }

  private static void dearCalls(ThinCoats x) {
    for (int i = 0; i < 64; i++) {
      x.feed(0x32284142, 0x29202020, 0x20202020, 0x20202020, 0x20202020);
      x.stack();
      x.add(15, 63, 127);
      x.worst(2, 12, 0);
      x.tender(2, 12);
      x.ways(15, 63, 127, 2);
      x.show();
      x.spare(15);
    }
  }

  /** After an object is made its calls make nothing more. */
  private static void room() {
    com.sun.management.ThreadMXBean bean = (com.sun.management.ThreadMXBean) ManagementFactory.getThreadMXBean();
    ThinCoats x = new ThinCoats();
    dearCalls(x);
    bean.getCurrentThreadAllocatedBytes();
    long before = bean.getCurrentThreadAllocatedBytes();
    dearCalls(x);
    long made = bean.getCurrentThreadAllocatedBytes() - before;
    check(made < 4096, "calls make no objects (" + made + " bytes)");
    before = bean.getCurrentThreadAllocatedBytes();
    x = new ThinCoats();
    made = bean.getCurrentThreadAllocatedBytes() - before;
    check(made < 64 * 1024, "an object is small (" + made + " bytes)");
    check(x.look(0) == 0, "no layers");
  }

  public static void main(String[] args) throws IOException {
    face();
    text();
    room();
    System.out.println(wrong == 0 ? "the form is as due" : wrong + " rules do not hold");
    if (wrong != 0) System.exit(1);
  }
}
