import java.lang.reflect.Method;
import java.lang.reflect.Modifier;
import java.nio.file.DirectoryStream;
import java.nio.file.Files;
import java.nio.file.Path;
import java.util.regex.Matcher;
import java.util.regex.Pattern;

/** README.md: the calls of its example answer as it says, and it names every call and every test. */
public final class ReadmeTest {
  private static int wrong = 0;

  private static void must(boolean good, String what) {
    if (!good) {
      wrong++;
      System.out.println(what);
    }
  }

  public static void main(String[] args) throws Exception {
    String readme = Files.readString(Path.of("README.md"));
    example(readme);
    for (Method m : PotHandles.class.getDeclaredMethods()) {
      boolean isOpen = Modifier.isPublic(m.getModifiers());
      must(!isOpen || readme.contains("`" + m.getName() + "`"), "README.md doesn't name the call " + m.getName());
    }
    try (DirectoryStream<Path> tests = Files.newDirectoryStream(Path.of("src/test/java"), "*.java")) {
      for (Path test : tests) {
        String name = test.getFileName().toString().replace(".java", "");
        must(readme.contains("- `" + name + "`: "), "README.md doesn't name the test " + name);
      }
    }
    for (String said : new String[] {".ci/run", "javac -d build src/main/java/PotHandles.java", "java -cp build/one"}) {
      must(readme.contains(said), "README.md doesn't say " + said);
    }
    System.out.println(wrong + " things of README.md are not so");
    if (wrong != 0) {
      System.exit(1);
    }
  }

  private static void example(String readme) throws Exception {
    PotHandles x = new PotHandles();
    int begin = readme.indexOf("```java\n");
    int end = readme.indexOf("```\n", begin + 8);
    must(begin >= 0 && end > begin, "README.md has no example");
    int calls = 0;
    for (String line : readme.substring(Math.max(0, begin + 8), Math.max(0, end)).split("\n")) {
      Matcher m = Pattern.compile("^x\\.(\\w+)\\(([^)]*)\\); +// (-?\\d+):? ").matcher(line);
      boolean isCall = m.find();
      must(isCall || line.equals("PotHandles x = new PotHandles();"), "README.md: what does this answer? " + line);
      if (isCall) {
        calls++;
        int got = answer(x, m.group(1), m.group(2).isEmpty() ? new String[0] : m.group(2).split(", "));
        must(got == Integer.parseInt(m.group(3)), "README.md: answered " + got + ": " + line);
      }
    }
    must(calls > 15, "README.md: only " + calls + " calls");
  }

  private static int answer(PotHandles x, String name, String[] given) throws Exception {
    for (Method m : PotHandles.class.getMethods()) {
      if (m.getName().equals(name) && m.getParameterCount() == given.length) {
        Object[] with = new Object[given.length];
        for (int i = 0; i < given.length; i++) {
          long v = Long.decode(given[i].replace("L", ""));
          with[i] = m.getParameterTypes()[i] == long.class ? (Object) v : (Object) (int) v;
        }
        return (int) m.invoke(x, with);
      }
    }
    throw new IllegalStateException("no call " + name);
  }
}
