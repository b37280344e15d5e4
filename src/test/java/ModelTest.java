import java.util.ArrayList;
import java.util.Arrays;
import java.util.HashMap;
import java.util.List;
import java.util.Map;
import java.util.Random;
import java.util.TreeSet;

/**
 * Random runs of calls on SaidShorter beside a slow model that is written straight from the
 * document: sayings as texts, concluded world by world, shortest lengths by relaxing until
 * nothing changes.
 */
public final class ModelTest {
  private static final int RUNS = 300;
  private static final int CALLS = 512;
  private static final String WORDS = "pqrABCDnao";

  private static int wrong = 0;
  private static int compared = 0;

  public static void main(String[] args) {
    for (int run = 0; run < RUNS && wrong < 20; run++) {
      new Run(run).go();
    }
    System.out.println(compared + " answers compared, " + wrong + " wrong");
    if (wrong != 0) {
      System.exit(1);
    }
  }

  /** One run of at most 512 calls, each put to both. */
  private static final class Run {
    final int seed;
    final Random random;
    final SaidShorter real = new SaidShorter();
    final Model model = new Model();
    final StringBuilder trace = new StringBuilder();
    int calls = 0;

    Run(int seed) {
      this.seed = seed;
      this.random = new Random(seed * 7919L + 13);
    }

    void go() {
      if (random.nextInt(4) > 0) {
        tell("s" + random.nextInt(6) + figure() + ";s" + random.nextInt(6) + figure() + ";h"
            + saying(3) + ";h" + saying(2) + ";");
      }
      while (calls < CALLS && wrong < 20) {
        if (random.nextInt(12) == 0) {
          tell(letters());
        } else {
          single();
        }
      }
    }

    void same(String call, int got, int want) {
      calls++;
      compared++;
      trace.append(call).append(' ');
      if (got != want) {
        wrong++;
        System.out.println("run " + seed + ", call " + calls + ": " + call + " answered " + got
            + ", the model " + want + "; after: " + trace);
      }
    }

    void tell(String text) {
      for (int i = 0; i < text.length() && calls < CALLS; i++) {
        int c = text.charAt(i);
        same("feed(" + c + ")", real.feed(c), model.feed(c));
      }
      same("school()", real.school(), model.school());
    }

    /** Often the same, so that kinds alone tell strangers apart. */
    int figure() {
      return random.nextBoolean() ? 1 : random.nextInt(10);
    }

    String saying(int depth) {
      int pick = random.nextInt(depth > 0 ? 14 : 7);
      if (pick < 7) {
        return random.nextInt(3) > 0 ? "" + WORDS.charAt(random.nextInt(3)) : "" + WORDS.charAt(pick);
      }
      if (pick < 9) {
        return "n" + saying(depth - 1);
      }
      return (random.nextBoolean() ? "a" : "o") + saying(depth - 1) + saying(depth - 1);
    }

    String longSaying(int words) {
      StringBuilder b = new StringBuilder();
      int lacking = 1;
      while (lacking > 0 && b.length() < 26) {
        boolean mustEnd = b.length() + lacking >= words;
        char c = mustEnd ? WORDS.charAt(random.nextInt(7)) : WORDS.charAt(7 + random.nextInt(3));
        b.append(c);
        lacking += c == 'n' ? 0 : c == 'a' || c == 'o' ? 1 : -1;
      }
      return b.toString();
    }

    String statement() {
      switch (random.nextInt(5)) {
        case 0:
          return "s" + random.nextInt(random.nextInt(6) == 0 ? 10 : 6) + figure() + ";";
        case 1:
          return "h" + (random.nextInt(4) == 0 ? longSaying(17 + random.nextInt(6)) : saying(3)) + ";";
        case 2:
          return "h" + saying(3) + ";";
        case 3:
          return "c" + "ABCD".charAt(random.nextInt(4)) + saying(2) + ";";
        default:
          return "l" + random.nextInt(random.nextInt(6) == 0 ? 10 : 3)
              + "ABCD".charAt(random.nextInt(4)) + ";";
      }
    }

    String letters() {
      StringBuilder b = new StringBuilder();
      int statements = random.nextInt(random.nextInt(6) == 0 ? 14 : 5);
      for (int i = 0; i < statements; i++) {
        b.append(statement());
      }
      if (random.nextInt(4) == 0 && b.length() > 0) {
        int at = random.nextInt(b.length());
        switch (random.nextInt(3)) {
          case 0:
            b.setLength(at);
            break;
          case 1:
            b.deleteCharAt(at);
            break;
          default:
            b.setCharAt(at, (char) (random.nextBoolean() ? random.nextInt(256)
                : "pqrABCDnao;0123456789shclE".charAt(random.nextInt(26))));
        }
      }
      return b.length() > 84 ? b.substring(0, 84) : b.toString();
    }

    /** Mostly within, sometimes just outside, rarely far outside. */
    int number(int least, int greatest) {
      switch (random.nextInt(24)) {
        case 0:
          return least - 1;
        case 1:
          return greatest + 1;
        case 2:
          int[] far = {Integer.MIN_VALUE, Integer.MAX_VALUE, -2, -1000, 1000, 1 << 30};
          return far[random.nextInt(far.length)];
        default:
          return least + random.nextInt(greatest - least + 1);
      }
    }

    int who() {
      return number(-1, Math.max(-1, model.strangers.size() - 1));
    }

    int scholar() {
      return number(0, Math.max(0, model.scholars.size() - 1));
    }

    int meaning() {
      if (random.nextInt(3) == 0 && !model.scholars.isEmpty()) {
        int who = random.nextInt(model.strangers.size() + 1) - 1;
        return model.meaning(who, model.scholars.get(random.nextInt(model.scholars.size())));
      }
      return number(0, 255);
    }

    void single() {
      int w = who();
      int s = scholar();
      int t = scholar();
      int m = meaning();
      int k = number(0, 1);
      int i;
      switch (random.nextInt(29)) {
        case 0:
          i = number(0, 255);
          same("feed(" + i + ")", real.feed(i), model.feed(i));
          break;
        case 1:
          i = number(0, 2);
          same("stranger(" + w + ", " + i + ")", real.stranger(w, i), model.stranger(w, i));
          break;
        case 2:
          i = number(0, 3);
          same("learn(" + w + ", " + i + ", " + k + ")", real.learn(w, i, k), model.learn(w, i, k));
          break;
        case 3:
          i = number(0, 3);
          same("name(" + i + ")", real.name(i), model.name(i));
          break;
        case 4:
          i = number(0, 3);
          int coined = random.nextInt(4) == 0 ? number(-1, 255) : m;
          same("coin(" + i + ", " + coined + ")", real.coin(i, coined), model.coin(i, coined));
          break;
        case 5:
          i = number(-1, 20);
          same("saying(" + s + ", " + i + ")", real.saying(s, i), model.saying(s, i));
          break;
        case 6:
          if (random.nextInt(4) == 0) {
            same("leave()", real.leave(), model.leave());
          }
          break;
        case 7:
          same("concludes(" + w + ", " + s + ")", real.concludes(w, s), model.concludes(w, s));
          break;
        case 8:
          same("parts(" + w + ", " + s + ", " + t + ")", real.parts(w, s, t), model.parts(w, s, t));
          break;
        case 9:
          same("won(" + w + ", " + s + ")", real.won(w, s), model.won(w, s));
          break;
        case 10:
          same("masters(" + w + ")", real.masters(w), model.masters(w));
          break;
        case 11:
          same("shortest(" + w + ", " + m + ")", real.shortest(w, m), model.shortest(w, m));
          break;
        case 12:
          same("cut(" + w + ", " + s + ")", real.cut(w, s), model.cut(w, s));
          break;
        case 13:
          i = number(1, 20);
          same("many(" + w + ", " + i + ")", real.many(w, i), model.many(w, i));
          break;
        case 14:
          same("farthest(" + w + ", " + k + ")", real.farthest(w, k), model.farthest(w, k));
          break;
        case 15:
          same("saves(" + w + ", " + m + ")", real.saves(w, m), model.saves(w, m));
          break;
        case 16:
          i = meaning();
          same("joined(" + w + ", " + m + ", " + i + ")", real.joined(w, m, i), model.joined(w, m, i));
          break;
        case 17:
          same("drops(" + w + ", " + s + ", " + k + ")", real.drops(w, s, k), model.drops(w, s, k));
          break;
        case 18:
        case 19:
          i = number(0, Math.max(0, model.lengthOr0(s) - 1));
          if (random.nextBoolean() && !model.noWho(w) && !model.noScholar(s)) {
            m = model.meaning(w, model.scholars.get(s));
          }
          same("heard(" + w + ", " + s + ", " + i + ", " + m + ")", real.heard(w, s, i, m),
              model.heard(w, s, i, m));
          break;
        case 20:
          same("unlike(" + s + ")", real.unlike(s), model.unlike(s));
          break;
        case 21:
          same("agree()", real.agree(), model.agree());
          break;
        case 22:
          same("row(" + m + ")", real.row(m), model.row(m));
          break;
        case 23:
          judging(w);
          break;
        case 24:
          i = number(1, 20);
          int z = random.nextInt();
          same("seeds(" + i + ", " + z + ", " + m + ", " + k + ")", real.seeds(i, z, m, k),
              model.seeds(i, z, m, k));
          break;
        case 25:
          if (random.nextInt(3) == 0) {
            same("image()", real.image(), model.image());
          }
          break;
        case 26:
          if (random.nextInt(3) == 0) {
            same("restore()", real.restore(), model.restore());
          }
          break;
        default:
          i = number(0, 17);
          same("count(" + i + ")", real.count(i), model.count(i));
          break;
      }
    }

    /** Often a row that is right, or right but for its end, ahead of the judging. */
    void judging(int who) {
      if (random.nextBoolean() && !model.noWho(who)) {
        same("judge(" + who + ")", real.judge(who), model.judge(who));
        int rows = Math.max(0, model.scholars.size() - random.nextInt(2));
        for (int i = 0; i < rows && calls < CALLS - 2; i++) {
          int m = random.nextInt(12) == 0 ? number(0, 255) : model.meaning(who, model.scholars.get(i));
          same("row(" + m + ")", real.row(m), model.row(m));
        }
      }
      same("judge(" + who + ")", real.judge(who), model.judge(who));
    }
  }

  /** A fault in letters, thrown with its number. */
  private static final class Fault extends RuntimeException {
    private static final long serialVersionUID = 1L;
    final int number;

    Fault(int number) {
      super("fault", null, false, false);
      this.number = number;
    }
  }

  private static final class Model {
    /** Each: kind, figure, learnt bits. */
    List<int[]> strangers = new ArrayList<>();
    List<String> scholars = new ArrayList<>();
    Integer[] coined = new Integer[4];
    String letters = "";
    List<Integer> row = new ArrayList<>();
    int[] refusals = new int[7];
    Model image = null;
    static final Map<String, int[]> LENGTHS = new HashMap<>();

    Model copy() {
      Model m = new Model();
      for (int[] s : strangers) {
        m.strangers.add(s.clone());
      }
      m.scholars.addAll(scholars);
      m.coined = coined.clone();
      return m;
    }

    void take(Model m) {
      Model fresh = m.copy();
      strangers = fresh.strangers;
      scholars = fresh.scholars;
      coined = fresh.coined;
    }

    int no(int reason) {
      refusals[-reason]++;
      return reason;
    }

    int far(int reason) {
      return 1000000000 - no(reason);
    }

    boolean noStranger(int who) {
      return who < 0 || who >= strangers.size();
    }

    boolean noWho(int who) {
      return who < -1 || who >= strangers.size();
    }

    boolean noScholar(int s) {
      return s < 0 || s >= scholars.size();
    }

    boolean noName(int n) {
      return n < 0 || n > 3;
    }

    int lengthOr0(int s) {
      return noScholar(s) ? 0 : scholars.get(s).length();
    }

    // ---- concluding, world by world

    int[] one(int who) {
      return who == -1 ? new int[] {0, 0, 15} : strangers.get(who);
    }

    int meaning(int who, String saying) {
      return meaning(one(who), saying);
    }

    int meaning(int[] stranger, String saying) {
      int m = 0;
      for (int world = 0; world < 8; world++) {
        int[] at = {0};
        if (holds(stranger, saying, at, world)) {
          m |= 1 << world;
        }
      }
      return m;
    }

    boolean holds(int[] stranger, String saying, int[] at, int world) {
      char c = saying.charAt(at[0]++);
      boolean figureWorld = stranger[1] % 8 == world;
      int kind = stranger[0];
      if (c >= 'p' && c <= 'r') {
        return (world >> (c - 'p')) % 2 == 1;
      }
      if (c >= 'A' && c <= 'D') {
        int n = c - 'A';
        return coined[n] != null && (stranger[2] >> n) % 2 == 1 && (coined[n] >> world) % 2 == 1;
      }
      boolean x = holds(stranger, saying, at, world);
      if (c == 'n') {
        return kind == 2 ? x : kind == 5 ? x && !figureWorld : !x;
      }
      boolean y = holds(stranger, saying, at, world);
      if (c == 'a') {
        return kind == 3 ? x && !y : x && y;
      }
      return kind == 1 ? x != y : kind == 4 ? x != y || figureWorld : x || y;
    }

    // ---- shortest, by relaxing

    int[] lengths(int who, Integer more) {
      int[] stranger = one(who);
      TreeSet<Integer> leaves = new TreeSet<>(Arrays.asList(170, 204, 240));
      for (int n = 0; n < 4; n++) {
        if (coined[n] != null && (stranger[2] >> n) % 2 == 1) {
          leaves.add(coined[n]);
        }
      }
      if (more != null) {
        leaves.add(more);
      }
      String key = stranger[0] + "/" + stranger[1] + "/" + leaves;
      return LENGTHS.computeIfAbsent(key, k -> relaxed(stranger, leaves));
    }

    static int[] relaxed(int[] stranger, TreeSet<Integer> leaves) {
      int none = 100000;
      int[] d = new int[256];
      Arrays.fill(d, none);
      for (int leaf : leaves) {
        d[leaf] = 1;
      }
      int bit = 1 << (stranger[1] % 8);
      int kind = stranger[0];
      boolean changed = true;
      while (changed) {
        changed = false;
        for (int x = 0; x < 256; x++) {
          if (d[x] >= none) {
            continue;
          }
          int not = kind == 2 ? x : kind == 5 ? (x | bit) - bit : 255 - x;
          if (d[x] + 1 < d[not]) {
            d[not] = d[x] + 1;
            changed = true;
          }
          for (int y = 0; y < 256; y++) {
            int sum = d[x] + d[y] + 1;
            if (sum >= none) {
              continue;
            }
            int and = kind == 3 ? x - (x & y) : x & y;
            int or = kind == 1 ? x ^ y : kind == 4 ? (x ^ y) | bit : x | y;
            if (sum < d[and]) {
              d[and] = sum;
              changed = true;
            }
            if (sum < d[or]) {
              d[or] = sum;
              changed = true;
            }
          }
        }
      }
      for (int m = 0; m < 256; m++) {
        d[m] = d[m] >= none ? -9 : d[m];
      }
      return d;
    }

    // ---- the face

    int feed(int letter) {
      if (letter < 0) {
        return no(-4);
      }
      if (letter > 255 || letters.length() == 80) {
        return no(-6);
      }
      letters += (char) letter;
      return letters.length();
    }

    int school() {
      String text = letters;
      letters = "";
      try {
        List<int[]> spans = new ArrayList<>();
        int at = 0;
        do {
          int end = statementEnd(text, at);
          spans.add(new int[] {at, end});
          at = end;
        } while (at < text.length());
        Model m = copy();
        for (int[] span : spans) {
          m.tell(text.substring(span[0], span[1] - 1), span[0]);
        }
        take(m);
        return spans.size();
      } catch (Fault fault) {
        return fault.number;
      }
    }

    static int statementEnd(String text, int at) {
      String form;
      switch (signAt(text, at)) {
        case 's':
          form = "dd";
          break;
        case 'h':
          form = "w";
          break;
        case 'c':
          form = "Nw";
          break;
        case 'l':
          form = "dN";
          break;
        default:
          throw new Fault(-1000 - at);
      }
      int p = at + 1;
      for (char f : (form + ";").toCharArray()) {
        if (f == 'w') {
          p = sayingEnd(text, p, p);
        } else {
          String set = f == 'd' ? "0123456789" : f == 'N' ? "ABCD" : ";";
          need(text, p, set);
          p++;
        }
      }
      return p;
    }

    static int signAt(String text, int at) {
      return at < text.length() ? text.charAt(at) : -1;
    }

    static void need(String text, int at, String set) {
      int sign = signAt(text, at);
      if (sign < 0 || set.indexOf(sign) < 0) {
        throw new Fault(-1000 - at);
      }
    }

    static int sayingEnd(String text, int at, int start) {
      need(text, at, WORDS);
      if (at - start >= 20) {
        throw new Fault(-1000 - at);
      }
      char c = text.charAt(at);
      int p = at + 1;
      if (c == 'n' || c == 'a' || c == 'o') {
        p = sayingEnd(text, p, start);
      }
      if (c == 'a' || c == 'o') {
        p = sayingEnd(text, p, start);
      }
      return p;
    }

    void tell(String s, int start) {
      char c = s.charAt(0);
      Fault fault = new Fault(-2000 - start);
      if (c == 's') {
        int kind = s.charAt(1) - '0';
        if (kind > 5 || strangers.size() == 5) {
          throw fault;
        }
        strangers.add(new int[] {kind, s.charAt(2) - '0', 0});
      } else if (c == 'h') {
        if (scholars.size() == 6) {
          throw fault;
        }
        scholars.add(s.substring(1));
      } else if (c == 'c') {
        coined[s.charAt(1) - 'A'] = meaning(-1, s.substring(2));
      } else {
        int who = s.charAt(1) - '0';
        if (who >= strangers.size()) {
          throw fault;
        }
        strangers.get(who)[2] ^= 1 << (s.charAt(2) - 'A');
      }
    }

    int stranger(int who, int what) {
      if (noStranger(who)) {
        return no(-1);
      }
      return what < 0 || what > 2 ? no(-2) : strangers.get(who)[what];
    }

    int learn(int who, int name, int is) {
      if (noStranger(who) || noName(name)) {
        return no(-1);
      }
      if (is < 0 || is > 1) {
        return no(-2);
      }
      int was = (strangers.get(who)[2] >> name) % 2;
      strangers.get(who)[2] += (is - was) << name;
      return was;
    }

    int name(int name) {
      return noName(name) ? no(-1) : coined[name] == null ? -9 : coined[name];
    }

    int coin(int name, int meaning) {
      if (noName(name)) {
        return no(-1);
      }
      if (meaning < -1) {
        return no(-4);
      }
      if (meaning > 255) {
        return no(-6);
      }
      int was = name(name);
      coined[name] = meaning == -1 ? null : (Integer) meaning;
      return was;
    }

    int saying(int s, int i) {
      if (noScholar(s)) {
        return no(-1);
      }
      if (i < -1) {
        return no(-4);
      }
      String his = scholars.get(s);
      return i == -1 ? his.length() : i < his.length() ? his.charAt(i) : -9;
    }

    int leave() {
      if (scholars.isEmpty()) {
        return no(-3);
      }
      scholars.remove(scholars.size() - 1);
      return scholars.size();
    }

    int concludes(int who, int s) {
      return noWho(who) || noScholar(s) ? no(-1) : meaning(who, scholars.get(s));
    }

    int parts(int who, int one, int other) {
      if (noWho(who) || noScholar(one) || noScholar(other) || one == other) {
        return no(-1);
      }
      int x = meaning(who, scholars.get(one));
      int y = meaning(who, scholars.get(other));
      for (int world = 0; world < 8; world++) {
        if ((x >> world) % 2 != (y >> world) % 2) {
          return world;
        }
      }
      return -9;
    }

    boolean beats(int who, int one, int other) {
      return meaning(who, scholars.get(one)) == meaning(who, scholars.get(other))
          && scholars.get(one).length() < scholars.get(other).length();
    }

    int won(int who, int s) {
      if (noWho(who) || noScholar(s)) {
        return no(-1);
      }
      int n = 0;
      for (int other = 0; other < scholars.size(); other++) {
        n += beats(who, s, other) ? 1 : 0;
      }
      return n;
    }

    int masters(int who) {
      if (noWho(who)) {
        return no(-1);
      }
      int bits = (1 << scholars.size()) - 1;
      for (int one = 0; one < scholars.size(); one++) {
        for (int other = 0; other < scholars.size(); other++) {
          if (beats(who, one, other)) {
            bits &= ~(1 << other);
          }
        }
      }
      return bits;
    }

    int shortest(int who, int m) {
      return noWho(who) ? no(-1) : m < 0 ? no(-4) : m > 255 ? no(-6) : lengths(who, null)[m];
    }

    int cut(int who, int s) {
      if (noWho(who) || noScholar(s)) {
        return far(-1);
      }
      int least = lengths(who, null)[meaning(who, scholars.get(s))];
      return least == -9 ? -9 : scholars.get(s).length() - least;
    }

    int many(int who, int n) {
      if (noWho(who)) {
        return no(-1);
      }
      if (n < 1) {
        return no(-4);
      }
      if (n > 20) {
        return no(-6);
      }
      int sum = 0;
      for (int d : lengths(who, null)) {
        sum += d == n ? 1 : 0;
      }
      return sum;
    }

    int farthest(int who, int what) {
      if (noWho(who)) {
        return no(-1);
      }
      if (what < 0 || what > 1) {
        return no(-2);
      }
      int[] d = lengths(who, null);
      int most = Arrays.stream(d).max().getAsInt();
      if (what == 0) {
        return most;
      }
      int m = 0;
      while (d[m] != most) {
        m++;
      }
      return m;
    }

    int saves(int who, int m) {
      if (noWho(who)) {
        return far(-1);
      }
      if (m < 0) {
        return far(-4);
      }
      if (m > 255) {
        return far(-6);
      }
      int[] d = lengths(who, null);
      int[] then = lengths(who, m);
      if (d[m] == -9) {
        return -9;
      }
      int sum = 0;
      for (String s : scholars) {
        int c = meaning(who, s);
        sum += d[c] == -9 ? 0 : d[c] - then[c];
      }
      return sum - (d[m] + 1);
    }

    int joined(int who, int one, int other) {
      if (noWho(who)) {
        return far(-1);
      }
      if (Math.min(one, other) < 0) {
        return far(-4);
      }
      if (Math.max(one, other) > 255) {
        return far(-6);
      }
      int[] d = lengths(who, null);
      if (d[one] == -9 || d[other] == -9 || d[one & other] == -9) {
        return 99;
      }
      return d[one & other] - (d[one] + d[other]);
    }

    int drops(int who, int s, int what) {
      if (noWho(who) || noScholar(s)) {
        return no(-1);
      }
      if (what < 0 || what > 1) {
        return no(-2);
      }
      String his = scholars.get(s);
      int ways = 0;
      int least = his.length();
      for (int i = 0; i < his.length(); i++) {
        char c = his.charAt(i);
        List<String> kept = new ArrayList<>();
        if (c == 'n') {
          kept.add(his.substring(0, i) + his.substring(i + 1));
        } else if (c == 'a' || c == 'o') {
          int first = sayingEnd(his, i + 1, i + 1);
          int second = sayingEnd(his, first, first);
          kept.add(his.substring(0, i) + his.substring(i + 1, first) + his.substring(second));
          kept.add(his.substring(0, i) + his.substring(first));
        }
        for (String k : kept) {
          if (meaning(who, k) == meaning(who, his)) {
            ways++;
            least = Math.min(least, k.length());
          }
        }
      }
      return what == 0 ? ways : least;
    }

    int heard(int who, int s, int i, int m) {
      if (noWho(who) || noScholar(s)) {
        return no(-1);
      }
      if (i < 0 || m < 0) {
        return no(-4);
      }
      String his = scholars.get(s);
      if (i >= his.length() || m > 255) {
        return no(-6);
      }
      String alike = "n";
      if (his.charAt(i) != 'n') {
        alike = "ao".indexOf(his.charAt(i)) >= 0 ? "ao" : "pqrABCD";
      }
      int bits = 0;
      for (char c : alike.toCharArray()) {
        if (meaning(who, his.substring(0, i) + c + his.substring(i + 1)) == m) {
          bits += 1 << WORDS.indexOf(c);
        }
      }
      return bits;
    }

    int unlike(int s) {
      if (noScholar(s)) {
        return no(-1);
      }
      TreeSet<Integer> all = new TreeSet<>();
      for (int who = 0; who < strangers.size(); who++) {
        all.add(meaning(who, scholars.get(s)));
      }
      return all.size();
    }

    int agree() {
      int pairs = 0;
      for (int one = 0; one < strangers.size(); one++) {
        for (int other = 0; other < one; other++) {
          boolean same = true;
          for (String s : scholars) {
            same &= meaning(one, s) == meaning(other, s);
          }
          pairs += same ? 1 : 0;
        }
      }
      return pairs;
    }

    int row(int m) {
      if (m < 0) {
        return no(-4);
      }
      if (m > 255 || row.size() == 6) {
        return no(-6);
      }
      row.add(m);
      return row.size();
    }

    int judge(int who) {
      if (noWho(who)) {
        return no(-1);
      }
      List<Integer> rows = row;
      row = new ArrayList<>();
      for (int i = 0; i < scholars.size() && i < rows.size(); i++) {
        if (meaning(who, scholars.get(i)) != rows.get(i)) {
          return i;
        }
      }
      if (rows.size() < scholars.size()) {
        return rows.size();
      }
      return rows.size() > scholars.size() ? scholars.size() : -9;
    }

    int seeds(int n, int z, int m, int what) {
      if (n < 1 || m < 0) {
        return no(-4);
      }
      if (n > 20 || m > 255) {
        return no(-6);
      }
      if (what < 0 || what > 1) {
        return no(-2);
      }
      long[] state = {z};
      int lengths = 0;
      int hits = 0;
      for (int i = 0; i < n; i++) {
        String s = drawn(state, 0);
        lengths += s.length();
        hits += meaning(-1, s) == m ? 1 : 0;
      }
      return what == 0 ? lengths : hits;
    }

    static int draw(long[] z, int n) {
      z[0] = (int) (z[0] * 1103515245L + 12345L);
      long bare = z[0] < 0 ? z[0] + (1L << 31) : z[0];
      return (int) (bare / 65536 % n);
    }

    static String drawn(long[] z, int depth) {
      int d = draw(z, depth == 3 ? 3 : 6);
      if (d < 3) {
        return "pqr".substring(d, d + 1);
      }
      if (d == 3) {
        return "n" + drawn(z, depth + 1);
      }
      String first = drawn(z, depth + 1);
      return (d == 4 ? "a" : "o") + first + drawn(z, depth + 1);
    }

    int image() {
      image = copy();
      return scholars.size();
    }

    int restore() {
      if (image == null) {
        return no(-3);
      }
      take(image);
      return scholars.size();
    }

    int count(int what) {
      if (what >= 11 && what <= 16) {
        return refusals[what - 10];
      }
      switch (what) {
        case 0:
          return strangers.size();
        case 1:
          return scholars.size();
        case 2:
          int n = 0;
          for (Integer c : coined) {
            n += c == null ? 0 : 1;
          }
          return n;
        case 3:
          return String.join("", scholars).length();
        case 4:
          return letters.length();
        case 5:
          return row.size();
        default:
          return -9;
      }
    }
  }
}
