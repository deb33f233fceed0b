import java.io.DataInputStream;
import java.io.IOException;
import java.lang.reflect.Constructor;
import java.lang.reflect.Field;
import java.lang.reflect.Method;
import java.lang.reflect.Modifier;
import java.nio.charset.StandardCharsets;
import java.nio.file.Files;
import java.nio.file.Path;
import java.util.ArrayList;
import java.util.Arrays;
import java.util.List;
import java.util.TreeMap;
import java.util.TreeSet;
import java.util.regex.Matcher;
import java.util.regex.Pattern;

/** What of ../shared/LANGUAGE.md can be seen without thought: the face, the words, the sizes. */
public final class LanguageTest {
  private static final Path SOURCE = Path.of("src/main/java/PotHandles.java");
  private static final Path DOC = Path.of("../shared/DOC.md");

  private static int wrong = 0;

  private static void must(boolean good, String what) {
    if (!good) {
      wrong++;
      System.out.println(what);
    }
  }

  public static void main(String[] args) throws IOException {
    TreeSet<String> face = face(PotHandles.class);
    must(face.equals(faceOfDocument()), "rule 1: the face is " + face);
    insides();
    String source = Files.readString(SOURCE, StandardCharsets.UTF_8);
    must(source.chars().allMatch(sign -> sign == '\n' || sign >= ' ' && sign < 127), "rule 3: signs 1 to 127");
    String bare = bare(source);
    words(bare);
    loops(bare);
    classesAndMaking(bare);
    libraryCalls(PotHandles.class);
    for (Class<?> inside : PotHandles.class.getDeclaredClasses()) {
      libraryCalls(inside);
    }
    recursion(bare);
    callsOpenAtOnce(bare);
    System.out.println(wrong + " rules are not kept");
    if (wrong != 0) {
      System.exit(1);
    }
  }

  private static TreeSet<String> face(Class<?> c) {
    TreeSet<String> face = new TreeSet<>();
    for (Method m : c.getDeclaredMethods()) {
      if (!Modifier.isPrivate(m.getModifiers())) {
        must(m.getReturnType() == int.class && m.getModifiers() == Modifier.PUBLIC, "rule 1: " + m);
        face.add(m.getName() + Arrays.toString(m.getParameterTypes()).replace(" ", ""));
      }
    }
    return face;
  }

  private static TreeSet<String> faceOfDocument() throws IOException {
    TreeSet<String> face = new TreeSet<>();
    Matcher m = Pattern.compile("public int (\\w+)\\(([^)]*)\\);").matcher(Files.readString(DOC));
    while (m.find()) {
      face.add(m.group(1) + "[" + m.group(2).replaceAll(" \\w+(,|$)", "$1").replace(" ", "") + "]");
    }
    return face;
  }

  private static void insides() {
    Class<?> main = PotHandles.class;
    must(main.getModifiers() == (Modifier.PUBLIC | Modifier.FINAL), "rule 1: public and final");
    Constructor<?>[] made = main.getDeclaredConstructors();
    must(made.length == 1 && made[0].getParameterCount() == 0, "rule 1: one constructor");
    Class<?>[] inside = main.getDeclaredClasses();
    must(inside.length < 12, "rule 11: classes " + inside.length);
    TreeSet<String> names = new TreeSet<>();
    for (Method m : main.getMethods()) {
      names.add(m.getName());
    }
    fieldsOf(main, true);
    for (Method m : main.getDeclaredMethods()) {
      must(!Modifier.isPrivate(m.getModifiers()) || !names.contains(m.getName()), "rule 1: the name of " + m);
      must(m.getParameterCount() <= 7, "rule 11: " + m);
    }
    for (Class<?> c : inside) {
      must(Modifier.isStatic(c.getModifiers()) && !Modifier.isPublic(c.getModifiers()), "rule 2: " + c);
      fieldsOf(c, false);
      for (Method m : c.getDeclaredMethods()) {
        must(!names.contains(m.getName()), "rule 1: the name of " + m);
        must(m.getParameterCount() <= 7, "rule 11: " + m);
      }
    }
  }

  private static void fieldsOf(Class<?> c, boolean isMain) {
    int own = 0;
    for (Field f : c.getDeclaredFields()) {
      boolean isStatic = Modifier.isStatic(f.getModifiers());
      must(!isStatic || Modifier.isFinal(f.getModifiers()) && f.getType().isPrimitive(), "rule 5: " + f);
      must(!isMain || Modifier.isPrivate(f.getModifiers()), "rule 1: " + f);
      must(isKnownType(f.getType()), "rule 3: " + f);
      own += isStatic ? 0 : 1;
    }
    must(own <= 20, "rule 11: fields of " + c);
  }

  private static boolean isKnownType(Class<?> type) {
    Class<?> one = type.isArray() ? type.getComponentType() : type;
    return one.isPrimitive() || one.getEnclosingClass() == PotHandles.class;
  }

  /** The source without comments and without what stands in quotes. */
  private static String bare(String source) {
    return source
        .replaceAll("(?s)/\\*.*?\\*/", "")
        .replaceAll("//[^\n]*", "")
        .replaceAll("'(\\\\.|[^'\\\\])'", "' '")
        .replaceAll("\"(\\\\.|[^\"\\\\])*\"", "\"\"");
  }

  private static void words(String bare) {
    String[] refused = {
      "\\bthrow\\b", "\\bthrows\\b", "\\btry\\b", "\\bcatch\\b", "\\bsynchronized\\b", "\\bassert\\b", "->", "::",
      "\\bpackage\\b", "System\\.(?!arraycopy)", "Exact\\b", "\\bObject\\b",
      "\\bMath\\.(?!max|min|abs|floorDiv|floorMod)", "\\bArrays\\.(?!fill|copyOf|copyOfRange)",
      "\\b(hashCode|toString|equals)\\b", "\\bjava\\.(?!util\\.\\w+;)", "@", "\\bstatic *\\{", "\\b(double|float|String|Random|Thread)\\b", "\\bwhile\\b"
    };
    for (String word : refused) {
      must(!Pattern.compile(word).matcher(bare).find(), "rule 4 or 6: " + word);
    }
    Matcher imports = Pattern.compile("import ([^;]*);").matcher(bare);
    while (imports.find()) {
      must(imports.group(1).matches("java\\.util\\.(Arrays|ArrayList|List)"), "rule 4: " + imports.group());
    }
    // the room: nothing is made but with the object itself
    for (String line : bare.split("\n")) {
      boolean isKept = line.matches(".*\\bfinal\\b.* = new .*") || line.matches(" *(sheets|row)\\[\\w\\] = new \\w+\\(\\);");
      must(!line.matches(".*\\bnew\\b.*") || isKept, "rule 12: " + line);
    }
    methodLengths(bare);
  }

  private static void methodLengths(String bare) {
    String[] lines = bare.split("\n", -1);
    for (int i = 0; i < lines.length; i++) {
      Matcher m = Pattern.compile("^( +)[a-z].*\\) \\{$").matcher(lines[i]);
      if (!m.find() || lines[i].matches(" *(if|for|switch|else).*")) {
        continue;
      }
      int end = i;
      while (end < lines.length && !lines[end].equals(m.group(1) + "}")) {
        end++;
      }
      must(end - i < 60, "rule 11: long: " + lines[i]);
    }
  }

  /** Rule 9: each loop counts to a bound, and nothing in it counts back. */
  private static void loops(String bare) {
    Pattern counts = Pattern.compile("^( *)for \\(int (\\w+) = \\w+; \\2 <=? [^;|]+; \\2\\+\\+\\) \\{$");
    String[] lines = bare.split("\n");
    for (int i = 0; i < lines.length; i++) {
      Matcher m = counts.matcher(lines[i]);
      boolean isLoop = lines[i].matches(".*\\b(for|do)\\b.*");
      boolean hasEnd = m.find();
      must(!isLoop || hasEnd, "rule 9: " + lines[i]);
      for (int k = i + 1; isLoop && hasEnd && k < lines.length && !lines[k].equals(m.group(1) + "}"); k++) {
        must(!lines[k].matches(".*(?<![.\\w])" + m.group(2) + " *(--|[-+*/%]?=[^=]).*"), "rule 9: " + lines[k]);
      }
    }
  }

  /** Rule 2: classes inside are static and bear a name; rule 12: what is made is handed nothing. */
  private static void classesAndMaking(String bare) {
    for (String line : bare.split("\n")) {
      boolean isClass = line.matches(".*\\b(class|interface|enum|record)\\b.*");
      boolean isNamed = line.matches("(public final|  private static final) class \\w+ \\{");
      must(!isClass || isNamed, "rule 2: " + line);
      must(!line.matches(".*\\bnew \\w+ *\\((?!\\)).*"), "rule 12: handed on: " + line);
      must(!line.matches(".*\\bthis\\b(?!\\.).*"), "rule 12: handed on: " + line);
    }
  }

  /** Rules 4 and 13, in what javac made of the source: which methods of others it calls. */
  private static void libraryCalls(Class<?> c) throws IOException {
    TreeSet<String> known = new TreeSet<>(List.of("java/lang/Object.<init>", "java/lang/Math.max", "java/lang/Math.min",
        "java/lang/Integer.bitCount", "java/lang/System.arraycopy", "java/util/Arrays.fill"));
    try (DataInputStream in = new DataInputStream(c.getResourceAsStream(c.getName() + ".class"))) {
      in.skipBytes(8);
      int many = in.readUnsignedShort();
      Object[] constants = new Object[many];
      int[] kinds = new int[many];
      for (int i = 1; i < many; i++) {
        kinds[i] = in.readUnsignedByte();
        constants[i] = constant(in, kinds[i]);
        i += kinds[i] == 5 || kinds[i] == 6 ? 1 : 0;
      }
      for (int i = 1; i < many; i++) {
        must(kinds[i] < 15 || kinds[i] > 18, "rules 2 and 10: made at run time, in " + c);
        if (kinds[i] >= 9 && kinds[i] <= 11) {
          int both = (Integer) constants[i];
          String owner = (String) constants[(Integer) constants[both >>> 16] >>> 16];
          String name = (String) constants[(Integer) constants[both & 0xFFFF] >>> 16];
          must(owner.startsWith("PotHandles") || known.contains(owner + "." + name), "rule 4: " + owner + "." + name);
        }
      }
    }
  }

  /** A text, or what it points to: one number in the upper half, or two. */
  private static Object constant(DataInputStream in, int kind) throws IOException {
    switch (kind) {
      case 1: return in.readUTF();
      case 7: case 8: case 16: case 19: case 20: return in.readUnsignedShort() << 16;
      case 5: case 6: return in.readLong();
      case 15: return in.readUnsignedByte() << 16 | in.readUnsignedShort();
      default: return in.readInt();
    }
  }

  /** Rule 8: what calls itself is known here, and each of it carries a depth that is asked. */
  private static void recursion(String bare) {
    TreeMap<String, TreeSet<String>> calls = new TreeMap<>();
    callsOfMethods(bare).forEach((caller, called) -> {
      String owner = caller.substring(0, caller.indexOf('.') + 1);
      TreeSet<String> own = new TreeSet<>(called);
      own.removeIf(other -> !other.startsWith(owner) || other.endsWith(".copy"));
      calls.put(caller, own);
    });
    TreeSet<String> again = new TreeSet<>();
    for (String method : calls.keySet()) {
      TreeSet<String> reached = new TreeSet<>(calls.get(method));
      for (int i = 0; i < calls.size(); i++) {
        for (String one : new TreeSet<>(reached)) {
          reached.addAll(calls.get(one));
        }
      }
      if (reached.contains(method)) {
        again.add(method);
      }
    }
    TreeSet<String> known = new TreeSet<>(List.of(
        "Reader.readLast", "Reader.readLevel", "Voices.say", "Voices.sayAbove", "Voices.sayBody"));
    must(again.equals(known), "rule 8: these call themselves: " + again);
    must(bare.contains("open >= MOST_OPEN") && bare.contains("depth > MOST_CALLED"), "rule 8: the guards");
  }

  // ---- rule 11: calls that are no recursion go at most eight deep

  private static void callsOpenAtOnce(String bare) {
    TreeMap<String, TreeSet<String>> calls = callsOfMethods(bare);
    must(calls.size() > 100, "rule 11: only " + calls.size() + " methods were found");
    for (String method : calls.keySet()) {
      int deep = deepest(calls, method, List.of());
      must(deep <= 8, "rule 11: " + deep + " deep: " + method);
    }
  }

  /** By Class.method: those that it calls. A call on an object may be any class's method of that name. */
  private static TreeMap<String, TreeSet<String>> callsOfMethods(String bare) {
    TreeMap<String, String> bodies = new TreeMap<>();
    String owner = "";
    String method = "";
    for (String line : bare.split("\n")) {
      Matcher inside = Pattern.compile("^  private static final class (\\w+) \\{$").matcher(line);
      Matcher begins = Pattern.compile("^(  |    )[a-z][\\w \\[\\]]* (\\w+)\\([^)]*\\) \\{$").matcher(line);
      if (inside.find()) {
        owner = inside.group(1);
      } else if (begins.find() && !line.matches(" *(if|for|switch|else|return)\\b.*")) {
        method = owner + "." + begins.group(2);
        bodies.put(method, "");
      } else if (bodies.containsKey(method)) {
        bodies.merge(method, line + "\n", String::concat);
      }
    }
    TreeMap<String, TreeSet<String>> calls = new TreeMap<>();
    for (String caller : bodies.keySet()) {
      TreeSet<String> called = new TreeSet<>();
      Matcher m = Pattern.compile("(\\.?)\\b(\\w+)\\(").matcher(bodies.get(caller));
      while (m.find()) {
        String own = caller.substring(0, caller.indexOf('.')) + "." + m.group(2);
        for (String other : bodies.keySet()) {
          boolean isNamedSo = other.endsWith("." + m.group(2));
          boolean isNear = other.equals(own) || other.startsWith(".") && !bodies.containsKey(own);
          if (isNamedSo && (isNear || m.group(1).equals("."))) {
            called.add(other);
          }
        }
      }
      calls.put(caller, called);
    }
    return calls;
  }

  private static int deepest(TreeMap<String, TreeSet<String>> calls, String method, List<String> open) {
    int most = 0;
    List<String> now = new ArrayList<>(open);
    now.add(method);
    for (String called : calls.get(method)) {
      if (!now.contains(called)) {
        most = Math.max(most, deepest(calls, called, now));
      }
    }
    return 1 + most;
  }
}
