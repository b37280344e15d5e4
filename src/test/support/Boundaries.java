import java.io.IOException;
import java.nio.charset.StandardCharsets;
import java.nio.file.Files;
import java.nio.file.Paths;
import java.util.ArrayList;
import java.util.List;
import java.util.Set;
import java.util.TreeSet;
import java.util.function.Consumer;
import java.util.function.Supplier;
import java.util.function.ToIntFunction;

/**
 * Tests of boundary cases, each named after a promise and the sentence of the document that names
 * the case. A sentence that the document does not have word for word fails its test.
 */
final class Boundaries {
  private static final String DOCUMENT = "../shared/DOC.md";
  private static final int FAR = 1000000000;

  private final String document;
  private final Set<String> names = new TreeSet<>();
  private final List<Set<String>> sentencesOf = new ArrayList<>();
  private int failed = 0;
  private String running = "";
  private int asked = 0;
  private int wrong = 0;

  Boundaries() throws IOException {
    document = new String(Files.readAllBytes(Paths.get(DOCUMENT)), StandardCharsets.UTF_8);
    for (int promise = 0; promise <= 29; promise++) {
      sentencesOf.add(new TreeSet<>());
    }
  }

  /** Runs a test of its own; what it asks goes through due(), refused() and faulty(). */
  void test(int promise, String sentence, String title, Consumer<Boundaries> body) {
    running = "promise " + promise + ", \"" + sentence + "\": " + title;
    asked = 0;
    wrong = 0;
    holds("the document says so", document.contains(sentence));
    holds("the name is its own", names.add(running));
    sentencesOf.get(promise).add(sentence);
    asked = 0;
    try {
      body.accept(this);
    } catch (RuntimeException | StackOverflowError thrown) {
      holds("no call throws, but " + thrown, false);
    }
    holds("the test asks something", asked > 0);
    failed += wrong > 0 ? 1 : 0;
  }

  /** Ends the program, with exit code 1 if a test has failed. */
  void end() {
    System.out.println(names.size() + " boundary tests, " + failed + " failed");
    if (failed > 0) {
      System.exit(1);
    }
  }

  /** Every sentence in the sections of the promises must have given its name to a test. */
  void allSentencesOfPromises() {
    for (int promise = 1; promise <= 29; promise++) {
      for (String sentence : sentencesIn(sectionOf(promise))) {
        if (!sentencesOf.get(promise).contains(sentence)) {
          failed++;
          System.out.println("promise " + promise + ", \"" + sentence + "\" has no test");
        }
      }
    }
  }

  private String sectionOf(int promise) {
    int start = document.indexOf("## Promise " + promise + ":");
    int text = document.indexOf("`: ", start) + 3;
    return document.substring(text, document.indexOf("\n", text)).trim();
  }

  /** Parts that end with "." or ";" outside of brackets and of "11 .. 16". */
  private static List<String> sentencesIn(String section) {
    List<String> found = new ArrayList<>();
    int depth = 0;
    int start = 0;
    for (int i = 0; i < section.length(); i++) {
      char c = section.charAt(i);
      depth += c == '(' ? 1 : c == ')' ? -1 : 0;
      boolean ends = i + 1 == section.length() || section.charAt(i + 1) == ' ';
      boolean range = i > 0 && section.charAt(i - 1) == '.';
      if (depth == 0 && (c == '.' || c == ';') && ends && !range) {
        found.add(section.substring(start, i).trim());
        start = i + 1;
      }
    }
    return found;
  }

  void due(String call, int got, int want) {
    asked++;
    if (got != want) {
      wrong++;
      System.out.println(running + ": " + call + " answered " + got + ", due is " + want);
    }
  }

  void holds(String what, boolean is) {
    asked++;
    if (!is) {
      wrong++;
      System.out.println(running + ": it does not hold that " + what);
    }
  }

  /** The call answers the number, and nothing changes but how many of it there were. */
  void refused(String call, Supplier<SaidShorter> made, ToIntFunction<SaidShorter> asks, int want) {
    SaidShorter without = made.get();
    SaidShorter with = made.get();
    due(call, asks.applyAsInt(with), want);
    int reason = want < 0 ? -want : want - FAR;
    for (int r = 1; r <= 6; r++) {
      due("count(" + (10 + r) + ") behind " + call, with.count(10 + r),
          without.count(10 + r) + (r == reason ? 1 : 0));
    }
    holds("nothing else changes by " + call, everything(with).equals(everything(without)));
  }

  void refused(String call, ToIntFunction<SaidShorter> asks, int want) {
    refused(call, Boundaries::ordinary, asks, want);
  }

  /** The letters are no school: the fault is answered, nothing of them comes, nothing counts. */
  void faulty(String letters, int want) {
    SaidShorter without = ordinary();
    without.school();
    SaidShorter with = ordinary();
    with.school();
    feed(with, letters);
    due("school() of " + letters, with.school(), want);
    for (int what = 11; what <= 16; what++) {
      due("count(" + what + ") behind " + letters, with.count(what), without.count(what));
    }
    holds("nothing comes of " + letters, everything(with).equals(everything(without)));
  }

  static void feed(SaidShorter x, String letters) {
    for (int i = 0; i < letters.length(); i++) {
      x.feed(letters.charAt(i));
    }
  }

  static int tell(SaidShorter x, String letters) {
    feed(x, letters);
    return x.school();
  }

  /** An object to which schools have been told. */
  static SaidShorter told(String... schools) {
    SaidShorter x = new SaidShorter();
    for (String letters : schools) {
      if (tell(x, letters) < 1) {
        throw new IllegalArgumentException("no school: " + letters);
      }
    }
    return x;
  }

  /**
   * Something of all that there can be: two strangers (deaf 9 with A, C learnt; stranger 5),
   * three scholars (np; apA; B), names A (204), C (240), an image of less, a row that is right
   * for a plain one, the letters of a school.
   */
  static SaidShorter ordinary() {
    SaidShorter x = told("s29;hnp;cAq;l0A;");
    x.image();
    tell(x, "s05;hapA;hB;cCr;l0C;");
    x.row(85);
    x.row(136);
    x.row(0);
    feed(x, "hr;cDp;");
    return x;
  }

  /** All that calls can tell of an object but refusals; uses up its letters and its row. */
  static String everything(SaidShorter x) {
    StringBuilder all = new StringBuilder();
    all.append(x.count(4)).append(' ').append(x.count(5)).append(' ');
    schoolOf(x, all);
    all.append(x.judge(-1)).append(' ').append(x.school()).append(' ');
    schoolOf(x, all);
    all.append(x.restore()).append(' ');
    schoolOf(x, all);
    return all.toString();
  }

  private static void schoolOf(SaidShorter x, StringBuilder all) {
    for (int who = 0; who < x.count(0); who++) {
      all.append('s').append(x.stranger(who, 0)).append(x.stranger(who, 1));
      all.append(' ').append(x.stranger(who, 2)).append(' ');
    }
    for (int scholar = 0; scholar < x.count(1); scholar++) {
      all.append('h');
      for (int i = 0; i < x.saying(scholar, -1); i++) {
        all.append((char) x.saying(scholar, i));
      }
      all.append(' ');
    }
    for (int name = 0; name < 4; name++) {
      all.append(x.name(name)).append(' ');
    }
  }
}
