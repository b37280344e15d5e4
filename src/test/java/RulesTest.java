import java.io.IOException;
import java.lang.reflect.Constructor;
import java.lang.reflect.Field;
import java.lang.reflect.Method;
import java.lang.reflect.Modifier;
import java.nio.charset.StandardCharsets;
import java.nio.file.Files;
import java.nio.file.Paths;
import java.util.Arrays;
import java.util.Random;
import java.util.Set;
import java.util.TreeSet;
import java.util.regex.Matcher;
import java.util.regex.Pattern;

/**
 * The document's face, the rules of LANGUAGE.md that a test can see, and how little a run makes.
 * It is started in the project's folder.
 */
public final class RulesTest {
  private static final String SOURCE = "src/main/java/SaidShorter.java";
  private static final String[] FACE = {
      "feed 1", "school 0", "stranger 2", "learn 3", "name 1", "coin 2", "saying 2", "leave 0",
      "concludes 2", "parts 3", "won 2", "masters 1", "shortest 2", "cut 2", "many 2",
      "farthest 2", "saves 2", "joined 3", "drops 3", "heard 4", "unlike 1", "agree 0", "row 1",
      "judge 1", "seeds 4", "image 0", "restore 0", "count 1"};

  private static int wrong = 0;

  public static void main(String[] args) throws IOException {
    face();
    members(SaidShorter.class);
    source();
    neverThrows();
    room();
    System.out.println(wrong == 0 ? "the rules are kept" : wrong + " rules are broken");
    if (wrong != 0) {
      System.exit(1);
    }
  }

  private static void must(boolean holds, String rule) {
    if (!holds) {
      wrong++;
      System.out.println(rule);
    }
  }

  private static void face() {
    Class<?> c = SaidShorter.class;
    must(Modifier.isFinal(c.getModifiers()) && Modifier.isPublic(c.getModifiers()),
        "rule 1: the class is public and final");
    Set<String> seen = new TreeSet<>();
    for (Method m : c.getDeclaredMethods()) {
      if (Modifier.isPrivate(m.getModifiers())) {
        continue;
      }
      must(m.getReturnType() == int.class && Modifier.isPublic(m.getModifiers())
          && !Modifier.isStatic(m.getModifiers()), "rule 1: " + m);
      for (Class<?> p : m.getParameterTypes()) {
        must(p == int.class, "rule 1: " + m);
      }
      seen.add(m.getName() + " " + m.getParameterCount());
    }
    must(seen.equals(new TreeSet<>(Arrays.asList(FACE))), "the face is " + seen);
    Constructor<?>[] made = c.getDeclaredConstructors();
    must(made.length == 1 && Modifier.isPublic(made[0].getModifiers())
        && made[0].getParameterCount() == 0, "rule 1: one public constructor");
  }

  private static void members(Class<?> top) {
    Set<String> publicNames = new TreeSet<>();
    for (String f : FACE) {
      publicNames.add(f.split(" ")[0]);
    }
    must(top.getDeclaredClasses().length + 1 <= 12, "rule 11: some twelve classes");
    for (Class<?> c : top.getDeclaredClasses()) {
      must(Modifier.isStatic(c.getModifiers()), "rule 2: " + c + " is static");
      must(!Modifier.isPublic(c.getModifiers()) && !Modifier.isProtected(c.getModifiers()),
          "rule 1: " + c);
      for (Method m : c.getDeclaredMethods()) {
        must(!publicNames.contains(m.getName()), "rule 1: " + m + " bears a public name");
        must(m.getParameterCount() <= 7, "rule 11: " + m);
      }
      statics(c);
    }
    for (Method m : top.getDeclaredMethods()) {
      must(Modifier.isPublic(m.getModifiers()) || !publicNames.contains(m.getName()),
          "rule 1: " + m + " bears a public name");
    }
    for (Field f : top.getDeclaredFields()) {
      must(Modifier.isPrivate(f.getModifiers()), "rule 1: " + f);
    }
    statics(top);
  }

  private static void statics(Class<?> c) {
    int own = 0;
    for (Field f : c.getDeclaredFields()) {
      if (Modifier.isStatic(f.getModifiers())) {
        must(Modifier.isFinal(f.getModifiers()), "rule 5: " + f);
      } else {
        own++;
      }
    }
    must(own <= 20, "rule 11: fields of " + c);
  }

  private static void source() throws IOException {
    String text = new String(Files.readAllBytes(Paths.get(SOURCE)), StandardCharsets.ISO_8859_1);
    for (int i = 0; i < text.length(); i++) {
      must(text.charAt(i) < 128, "a sign above 127 in the source");
    }
    String code = text.replaceAll("(?s)/\\*.*?\\*/", " ").replaceAll("//[^\n]*", " ");
    String[] forbidden = {"throw", "throws", "try", "catch", "finally", "synchronized", "assert",
        "package", "volatile", "transient", "native", "strictfp", "Object", "Exception", "System\\.(?!arraycopy)",
        "Thread", "Random", "String", "hashCode", "equals", "toString", "getClass", "->", "::",
        "instanceof", "@", "double", "float"};
    for (String word : forbidden) {
      String bounded = Character.isLetter(word.charAt(0)) ? "\\b" + word + "\\b" : word;
      if (word.startsWith("System")) {
        bounded = "\\b" + word;
      }
      must(!Pattern.compile(bounded).matcher(code).find(), "the source has " + word);
    }
    Matcher imports = Pattern.compile("import ([^;]*);").matcher(code);
    while (imports.find()) {
      must(imports.group(1).equals("java.util.Arrays"), "rule 4: import " + imports.group(1));
    }
    lengthOfMethods(text);
  }

  private static void lengthOfMethods(String text) {
    String[] lines = text.split("\n");
    int start = -1;
    String indent = "";
    for (int i = 0; i < lines.length; i++) {
      must(lines[i].length() <= 100, "line " + (i + 1) + " is long");
      Matcher head = Pattern.compile("^( {2}| {4})[a-zA-Z].*\\) \\{$").matcher(lines[i]);
      if (head.find() && !lines[i].contains(" if (") && !lines[i].contains(" for (")
          && !lines[i].contains(" switch (")) {
        start = i;
        indent = head.group(1);
      } else if (start >= 0 && lines[i].equals(indent + "}")) {
        must(i - start < 60, "rule 11: the method at line " + (start + 1) + " is long");
        start = -1;
      }
    }
  }

  /** Any arguments in many states, also behind the 512th call. */
  private static void neverThrows() {
    int[] numbers = {Integer.MIN_VALUE, Integer.MIN_VALUE + 1, -1000, -9, -2, -1, 0, 1, 2, 3, 4, 5, 6,
        7, 19, 20, 21, 80, 105, 170, 254, 255, 256, 1000, Integer.MAX_VALUE - 1, Integer.MAX_VALUE};
    String letters = "s0123456789;hclpqrABCDnao";
    Random random = new Random(20);
    for (int object = 0; object < 20; object++) {
      SaidShorter x = new SaidShorter();
      for (int call = 0; call < 3000; call++) {
        if (random.nextInt(3) == 0) {
          tell(x, random.nextBoolean() ? "s" + random.nextInt(6) + "9;hanAoqD;cBr;l0B;"
              : "" + letters.charAt(random.nextInt(letters.length())));
        }
        Method method = faceMethod(random.nextInt(FACE.length));
        Object[] arguments = new Object[method.getParameterCount()];
        for (int i = 0; i < arguments.length; i++) {
          arguments[i] = numbers[random.nextInt(numbers.length)];
        }
        answers(x, method, arguments);
      }
    }
  }

  private static void tell(SaidShorter x, String text) {
    for (int i = 0; i < text.length(); i++) {
      x.feed(text.charAt(i));
    }
    x.school();
  }

  private static Method faceMethod(int number) {
    String[] face = FACE[number].split(" ");
    Class<?>[] parameters = new Class<?>[Integer.parseInt(face[1])];
    Arrays.fill(parameters, int.class);
    try {
      return SaidShorter.class.getMethod(face[0], parameters);
    } catch (NoSuchMethodException missing) {
      throw new IllegalStateException(missing);
    }
  }

  private static void answers(SaidShorter x, Method method, Object[] arguments) {
    try {
      method.invoke(x, arguments);
    } catch (ReflectiveOperationException thrown) {
      must(false, "rule 7: " + method.getName() + Arrays.toString(arguments) + " threw "
          + thrown.getCause());
    }
  }

  /** A run of 512 calls, schools among them, makes little beside what the constructor makes. */
  private static void room() {
    com.sun.management.ThreadMXBean threads =
        (com.sun.management.ThreadMXBean) java.lang.management.ManagementFactory.getThreadMXBean();
    long id = Thread.currentThread().getId();
    callsOfARun();
    long before = threads.getThreadAllocatedBytes(id);
    callsOfARun();
    long bytes = threads.getThreadAllocatedBytes(id) - before;
    must(bytes < 200000, "a run made " + bytes + " bytes");
  }

  private static void callsOfARun() {
    SaidShorter x = new SaidShorter();
    char[] letters = {'s', '0', '1', ';', 's', '3', '1', ';', 'h', 'a', 'p', 'q', ';'};
    for (int round = 0; round < 20; round++) {
      for (int i = 0; i < letters.length; i++) {
        x.feed(letters[i]);
      }
      x.school();
      x.saves(round % 3 - 1, round * 7);
      x.farthest(round % 3 - 1, 1);
      x.coin(round % 4, round * 11);
      x.cut(0, 0);
      x.drops(0, 0, 0);
      x.heard(-1, 0, 1, 0);
      x.seeds(20, round, 0, 0);
      x.image();
      x.restore();
      x.agree();
      x.judge(-1);
    }
  }
}
