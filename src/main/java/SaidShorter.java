import java.util.Arrays;

/**
 * A school in which sayings of words go over worlds of three facts, and strangers of kinds
 * conclude meanings from them. The document's promises say what each call answers.
 */
public final class SaidShorter {
  private static final int MOST_LETTERS = 80;
  private static final int MOST_WORDS = 20;
  private static final int MOST_STRANGERS = 5;
  private static final int MOST_SCHOLARS = 6;
  private static final int MOST_IN_ROW = 6;
  private static final int MOST_SEEDS = 20;
  private static final int NAMES = 4;
  private static final int ALL_NAMES = 15;
  private static final int WORLDS = 8;
  private static final int MEANINGS = 256;
  private static final int ALL_WORLDS = 255;

  private static final int PLAIN_ONE = -1;
  private static final int NONE = -9;
  private static final int CANNOT_BE_SAID = 99;

  private static final int NOBODY = 1;
  private static final int OTHER = 2;
  private static final int STATE = 3;
  private static final int BELOW = 4;
  private static final int ROOM = 6;
  private static final int REFUSED_BASE = 1000000000;
  private static final int FIRST_REFUSAL_COUNT = 11;

  private static final int FORM_FAULT = -1000;
  private static final int SENSE_FAULT = -2000;

  /** The words in the order of the bits that heard() answers. */
  private static final int[] WORDS = {'p', 'q', 'r', 'A', 'B', 'C', 'D', 'n', 'a', 'o'};

  /** The words in the order of a draw below 6, the facts first. */
  private static final int[] DRAWN = {'p', 'q', 'r', 'n', 'a', 'o'};
  /** In so many others a drawn saying is a fact. */
  private static final int DEEPEST = 3;

  /** The worlds with the bit of p, q, r. */
  private static final int[] FACT_MEANINGS = {170, 204, 240};

  private final Letters letters = new Letters();
  private School now = new School();
  private School trial = new School();
  private final School kept = new School();
  private boolean isKept = false;
  private final int[] told = new int[MOST_IN_ROW];
  private int toldCount = 0;
  private final int[] refusals = new int[ROOM + 1];
  private final Stranger plain = new Stranger(0);
  private final Listener listener = new Listener();
  private final int[] concluded = new int[MOST_SCHOLARS];
  private final Fewest[] fewestOf = new Fewest[MOST_STRANGERS + 1];
  private final Fewest fewestThen = new Fewest();
  private final Saying scratch = new Saying();
  /** The seed of the draws of one call. */
  private int seed = 0;

  public SaidShorter() {
    for (int i = 0; i < fewestOf.length; i++) {
      fewestOf[i] = new Fewest();
    }
  }

  public int feed(int letter) {
    if (letter < 0) {
      return refused(BELOW);
    }
    if (letter > 255 || letters.isFull()) {
      return refused(ROOM);
    }
    return letters.add(letter);
  }

  public int school() {
    int answer = letters.areWellFormed() ? tellAll() : FORM_FAULT - letters.place();
    letters.clear();
    return answer;
  }

  public int stranger(int who, int what) {
    if (noStranger(who)) {
      return refused(NOBODY);
    }
    switch (what) {
      case 0:
        return now.strangers[who].kind();
      case 1:
        return now.strangers[who].figure;
      case 2:
        return now.learnt[who];
      default:
        return refused(OTHER);
    }
  }

  public int learn(int who, int name, int is) {
    if (noStranger(who) || noName(name)) {
      return refused(NOBODY);
    }
    if (is != 0 && is != 1) {
      return refused(OTHER);
    }
    int was = (now.learnt[who] >> name) & 1;
    if (was != is) {
      now.turnLearnt(who, name);
    }
    return was;
  }

  public int name(int name) {
    if (noName(name)) {
      return refused(NOBODY);
    }
    return now.coined[name];
  }

  public int coin(int name, int meaning) {
    if (noName(name)) {
      return refused(NOBODY);
    }
    if (meaning < -1) {
      return refused(BELOW);
    }
    if (meaning > ALL_WORLDS) {
      return refused(ROOM);
    }
    int was = now.coined[name];
    now.coined[name] = meaning == -1 ? NONE : meaning;
    return was;
  }

  public int saying(int scholar, int i) {
    if (noScholar(scholar)) {
      return refused(NOBODY);
    }
    if (i < -1) {
      return refused(BELOW);
    }
    Saying his = now.sayings[scholar];
    if (i == -1) {
      return his.length;
    }
    return i < his.length ? his.words[i] : NONE;
  }

  public int leave() {
    if (now.scholarCount < 1) {
      return refused(STATE);
    }
    now.scholarCount--;
    return now.scholarCount;
  }

  public int concludes(int who, int scholar) {
    if (noListener(who) || noScholar(scholar)) {
      return refused(NOBODY);
    }
    listenAs(who);
    return meaningOf(scholar);
  }

  public int parts(int who, int one, int other) {
    if (noListener(who) || noScholar(one) || noScholar(other) || one == other) {
      return refused(NOBODY);
    }
    listenAs(who);
    int unlike = meaningOf(one) ^ meaningOf(other);
    for (int world = 0; world < WORLDS; world++) {
      if (((unlike >> world) & 1) == 1) {
        return world;
      }
    }
    return NONE;
  }

  public int won(int who, int scholar) {
    if (noListener(who) || noScholar(scholar)) {
      return refused(NOBODY);
    }
    concludeAllAs(who);
    int beaten = 0;
    for (int other = 0; other < now.scholarCount; other++) {
      if (beats(scholar, other)) {
        beaten++;
      }
    }
    return beaten;
  }

  public int masters(int who) {
    if (noListener(who)) {
      return refused(NOBODY);
    }
    concludeAllAs(who);
    int unbeaten = 0;
    for (int scholar = 0; scholar < now.scholarCount; scholar++) {
      if (!isBeaten(scholar)) {
        unbeaten |= 1 << scholar;
      }
    }
    return unbeaten;
  }

  public int shortest(int who, int meaning) {
    if (noListener(who)) {
      return refused(NOBODY);
    }
    if (meaning < 0) {
      return refused(BELOW);
    }
    if (meaning > ALL_WORLDS) {
      return refused(ROOM);
    }
    return fewestFor(who).wordsFor(meaning);
  }

  public int cut(int who, int scholar) {
    if (noListener(who) || noScholar(scholar)) {
      return refusedFarOff(NOBODY);
    }
    Fewest fewest = fewestFor(who);
    int least = fewest.wordsFor(meaningOf(scholar));
    return least == NONE ? NONE : now.sayings[scholar].length - least;
  }

  public int many(int who, int n) {
    if (noListener(who)) {
      return refused(NOBODY);
    }
    if (n < 1) {
      return refused(BELOW);
    }
    if (n > MOST_WORDS) {
      return refused(ROOM);
    }
    return fewestFor(who).meaningsOfLength(n);
  }

  public int farthest(int who, int what) {
    if (noListener(who)) {
      return refused(NOBODY);
    }
    if (what != 0 && what != 1) {
      return refused(OTHER);
    }
    Fewest fewest = fewestFor(who);
    int meaning = fewest.farthestMeaning();
    return what == 0 ? fewest.wordsFor(meaning) : meaning;
  }

  public int saves(int who, int meaning) {
    if (noListener(who)) {
      return refusedFarOff(NOBODY);
    }
    if (meaning < 0) {
      return refusedFarOff(BELOW);
    }
    if (meaning > ALL_WORLDS) {
      return refusedFarOff(ROOM);
    }
    Fewest fewest = fewestFor(who);
    int price = fewest.wordsFor(meaning);
    return price == NONE ? NONE : wordsSavedBy(meaning, fewest) - price - 1;
  }

  public int joined(int who, int one, int other) {
    if (noListener(who)) {
      return refusedFarOff(NOBODY);
    }
    if (one < 0 || other < 0) {
      return refusedFarOff(BELOW);
    }
    if (one > ALL_WORLDS || other > ALL_WORLDS) {
      return refusedFarOff(ROOM);
    }
    Fewest fewest = fewestFor(who);
    int wordsOne = fewest.wordsFor(one);
    int wordsOther = fewest.wordsFor(other);
    int wordsBoth = fewest.wordsFor(one & other);
    if (wordsOne == NONE || wordsOther == NONE || wordsBoth == NONE) {
      return CANNOT_BE_SAID;
    }
    return wordsBoth - wordsOne - wordsOther;
  }

  public int drops(int who, int scholar, int what) {
    if (noListener(who) || noScholar(scholar)) {
      return refused(NOBODY);
    }
    if (what != 0 && what != 1) {
      return refused(OTHER);
    }
    listenAs(who);
    Saying his = now.sayings[scholar];
    int meaning = listener.meaningOf(his);
    int ways = 0;
    int least = his.length;
    for (int place = 0; place < his.length; place++) {
      int parts = Saying.partsOf(his.words[place]);
      for (int part = 0; part < parts; part++) {
        scratch.copyWithPartAlone(his, place, part);
        if (listener.meaningOf(scratch) == meaning) {
          ways++;
          least = Math.min(least, scratch.length);
        }
      }
    }
    return what == 0 ? ways : least;
  }

  public int heard(int who, int scholar, int i, int meaning) {
    if (noListener(who) || noScholar(scholar)) {
      return refused(NOBODY);
    }
    if (i < 0 || meaning < 0) {
      return refused(BELOW);
    }
    Saying his = now.sayings[scholar];
    if (i >= his.length || meaning > ALL_WORLDS) {
      return refused(ROOM);
    }
    listenAs(who);
    int parts = Saying.partsOf(his.words[i]);
    scratch.copy(his);
    int possible = 0;
    for (int bit = 0; bit < WORDS.length; bit++) {
      if (Saying.partsOf(WORDS[bit]) == parts) {
        scratch.words[i] = WORDS[bit];
        possible |= listener.meaningOf(scratch) == meaning ? 1 << bit : 0;
      }
    }
    return possible;
  }

  public int unlike(int scholar) {
    if (noScholar(scholar)) {
      return refused(NOBODY);
    }
    int different = 0;
    for (int who = 0; who < now.strangerCount; who++) {
      if (!isConcludedBefore(who, scholar)) {
        different++;
      }
    }
    return different;
  }

  public int agree() {
    int pairs = 0;
    for (int one = 0; one < now.strangerCount; one++) {
      for (int other = one + 1; other < now.strangerCount; other++) {
        if (concludeAlike(one, other)) {
          pairs++;
        }
      }
    }
    return pairs;
  }

  public int row(int meaning) {
    if (meaning < 0) {
      return refused(BELOW);
    }
    if (meaning > ALL_WORLDS || toldCount >= MOST_IN_ROW) {
      return refused(ROOM);
    }
    told[toldCount] = meaning;
    toldCount++;
    return toldCount;
  }

  public int judge(int who) {
    if (noListener(who)) {
      return refused(NOBODY);
    }
    listenAs(who);
    int tellings = toldCount;
    toldCount = 0;
    int both = Math.min(tellings, now.scholarCount);
    for (int scholar = 0; scholar < both; scholar++) {
      if (meaningOf(scholar) != told[scholar]) {
        return scholar;
      }
    }
    return tellings == now.scholarCount ? NONE : both;
  }

  public int seeds(int n, int z, int meaning, int what) {
    if (n < 1 || meaning < 0) {
      return refused(BELOW);
    }
    if (n > MOST_SEEDS || meaning > ALL_WORLDS) {
      return refused(ROOM);
    }
    if (what != 0 && what != 1) {
      return refused(OTHER);
    }
    listenAs(PLAIN_ONE);
    seed = z;
    int lengths = 0;
    int hits = 0;
    for (int drawn = 0; drawn < n; drawn++) {
      scratch.length = 0;
      drawSaying(0);
      lengths += scratch.length;
      hits += listener.meaningOf(scratch) == meaning ? 1 : 0;
    }
    return what == 0 ? lengths : hits;
  }

  public int image() {
    kept.copy(now);
    isKept = true;
    return now.scholarCount;
  }

  public int restore() {
    if (!isKept) {
      return refused(STATE);
    }
    now.copy(kept);
    return now.scholarCount;
  }

  public int count(int what) {
    switch (what) {
      case 0:
        return now.strangerCount;
      case 1:
        return now.scholarCount;
      case 2:
        return now.coinedCount();
      case 3:
        return now.lengths();
      case 4:
        return letters.size();
      case 5:
        return toldCount;
      default:
        return refusalsCounted(what);
    }
  }

  private int refusalsCounted(int what) {
    if (what < FIRST_REFUSAL_COUNT || what >= FIRST_REFUSAL_COUNT + ROOM) {
      return NONE;
    }
    return refusals[what - FIRST_REFUSAL_COUNT + 1];
  }

  private int refused(int reason) {
    refusals[reason]++;
    return -reason;
  }

  /** For calls whose ordinary answers may be below 0. */
  private int refusedFarOff(int reason) {
    return REFUSED_BASE - refused(reason);
  }

  private boolean noStranger(int who) {
    return who < 0 || who >= now.strangerCount;
  }

  private boolean noListener(int who) {
    return who != PLAIN_ONE && noStranger(who);
  }

  private boolean noScholar(int scholar) {
    return scholar < 0 || scholar >= now.scholarCount;
  }

  private static boolean noName(int name) {
    return name < 0 || name >= NAMES;
  }

  private void listenAs(int who) {
    if (noStranger(who)) {
      listener.become(plain, now.coined, ALL_NAMES);
    } else {
      listener.become(now.strangers[who], now.coined, now.learnt[who]);
    }
  }

  /** What is concluded from a scholar's saying by the one whom listenAs() told. */
  private int meaningOf(int scholar) {
    return listener.meaningOf(now.sayings[scholar]);
  }

  private void concludeAllAs(int who) {
    listenAs(who);
    for (int scholar = 0; scholar < now.scholarCount; scholar++) {
      concluded[scholar] = meaningOf(scholar);
    }
  }

  /** By what concludeAllAs() has heard. */
  private boolean beats(int one, int other) {
    return now.sayings[one].length < now.sayings[other].length
        && concluded[one] == concluded[other];
  }

  private boolean isBeaten(int scholar) {
    for (int other = 0; other < now.scholarCount; other++) {
      if (beats(other, scholar)) {
        return true;
      }
    }
    return false;
  }

  /** Leaves the listener as who, so that sayings can be concluded from at once. */
  private Fewest fewestFor(int who) {
    listenAs(who);
    Fewest fewest = fewestOf[noStranger(who) ? MOST_STRANGERS : who];
    fewest.turnTo(listener);
    return fewest;
  }

  private int wordsSavedBy(int meaning, Fewest fewestNow) {
    listener.knowInMind(meaning);
    fewestThen.turnTo(listener);
    int saved = 0;
    for (int scholar = 0; scholar < now.scholarCount; scholar++) {
      int meant = meaningOf(scholar);
      int words = fewestNow.wordsFor(meant);
      if (words != NONE) {
        saved += words - fewestThen.wordsFor(meant);
      }
    }
    return saved;
  }

  /** Whether a stranger ahead of this one concludes the same from the scholar's saying. */
  private boolean isConcludedBefore(int who, int scholar) {
    listenAs(who);
    int meaning = meaningOf(scholar);
    for (int earlier = 0; earlier < who; earlier++) {
      listenAs(earlier);
      if (meaningOf(scholar) == meaning) {
        return true;
      }
    }
    return false;
  }

  private boolean concludeAlike(int one, int other) {
    for (int scholar = 0; scholar < now.scholarCount; scholar++) {
      listenAs(one);
      int meaning = meaningOf(scholar);
      listenAs(other);
      if (meaningOf(scholar) != meaning) {
        return false;
      }
    }
    return true;
  }

  /** Draws into scratch a saying that is in so many others; the deepest are facts. */
  private void drawSaying(int depth) {
    int word = DRAWN[drawBelow(depth < DEEPEST ? DRAWN.length : FACT_MEANINGS.length)];
    scratch.add(word);
    int parts = depth < DEEPEST ? Saying.partsOf(word) : 0;
    for (int part = 0; part < parts; part++) {
      drawSaying(depth + 1);
    }
  }

  private int drawBelow(int n) {
    seed = seed * 1103515245 + 12345;
    return n > 0 ? (seed & 0x7fffffff) / 65536 % n : 0;
  }

  /** Tells well-formed letters to a copy, so that a fault leaves the school as it was. */
  private int tellAll() {
    trial.copy(now);
    letters.rewind();
    int statements = 0;
    while (letters.haveMore() && statements < MOST_LETTERS) {
      int start = letters.place();
      if (!tellStatement()) {
        return SENSE_FAULT - start;
      }
      statements++;
    }
    School before = now;
    now = trial;
    trial = before;
    return statements;
  }

  /** Whether the next statement is as it must be; it has come to the trial school then. */
  private boolean tellStatement() {
    boolean fits;
    switch (letters.next()) {
      case 's':
        int kind = letters.nextDigit();
        int figure = letters.nextDigit();
        fits = trial.addStranger(kind, figure);
        break;
      case 'h':
        letters.readSaying(scratch);
        fits = trial.addScholar(scratch);
        break;
      case 'c':
        int coined = letters.nextName();
        letters.readSaying(scratch);
        listener.become(plain, trial.coined, ALL_NAMES);
        fits = trial.coinName(coined, listener.meaningOf(scratch));
        break;
      default:
        int who = letters.nextDigit();
        fits = trial.turnLearnt(who, letters.nextName());
        break;
    }
    letters.next();
    return fits;
  }

  /** A stranger of kind 0, and what the other kinds do unless they do it their own way. */
  private static class Stranger {
    final int figure;

    Stranger(int figure) {
      this.figure = figure;
    }

    /** Null for a number that is no kind. */
    static Stranger ofKind(int kind, int figure) {
      switch (kind) {
        case 0:
          return new Stranger(figure);
        case 1:
          return new Hasty(figure);
        case 2:
          return new Deaf(figure);
        case 3:
          return new Contrary(figure);
        case 4:
          return new Sly(figure);
        case 5:
          return new Dull(figure);
        default:
          return null;
      }
    }

    int kind() {
      return 0;
    }

    int not(int x) {
      return ALL_WORLDS & ~x;
    }

    int and(int x, int y) {
      return x & y;
    }

    /** Whether and(y, x) may be unlike and(x, y); or(x, y) has no sides in any kind. */
    boolean andHasSides() {
      return false;
    }

    int or(int x, int y) {
      return x | y;
    }

    int worldOfFigure() {
      return 1 << (figure % WORLDS);
    }
  }

  private static class Hasty extends Stranger {
    Hasty(int figure) {
      super(figure);
    }

    int kind() {
      return 1;
    }

    int or(int x, int y) {
      return x ^ y;
    }
  }

  private static class Deaf extends Stranger {
    Deaf(int figure) {
      super(figure);
    }

    int kind() {
      return 2;
    }

    int not(int x) {
      return x;
    }
  }

  private static final class Contrary extends Stranger {
    Contrary(int figure) {
      super(figure);
    }

    int kind() {
      return 3;
    }

    int and(int x, int y) {
      return x & ~y;
    }

    boolean andHasSides() {
      return true;
    }
  }

  private static final class Sly extends Hasty {
    Sly(int figure) {
      super(figure);
    }

    int kind() {
      return 4;
    }

    int or(int x, int y) {
      return super.or(x, y) | worldOfFigure();
    }
  }

  private static final class Dull extends Deaf {
    Dull(int figure) {
      super(figure);
    }

    int kind() {
      return 5;
    }

    int not(int x) {
      return super.not(x) & ~worldOfFigure();
    }
  }

  /** Words from the first on, each in front of the sayings that belong to it. */
  private static final class Saying {
    final int[] words = new int[MOST_WORDS];
    int length = 0;

    /** How many sayings stand behind a word as its parts; -1: the letter is no word. */
    static int partsOf(int letter) {
      switch (letter) {
        case 'p':
        case 'q':
        case 'r':
        case 'A':
        case 'B':
        case 'C':
        case 'D':
          return 0;
        case 'n':
          return 1;
        case 'a':
        case 'o':
          return 2;
        default:
          return -1;
      }
    }

    void add(int word) {
      if (length < MOST_WORDS) {
        words[length] = word;
        length++;
      }
    }

    void copy(Saying other) {
      length = 0;
      addFrom(other, 0, other.length);
    }

    /** The other saying, but of the saying at a place only one of its parts. */
    void copyWithPartAlone(Saying other, int place, int part) {
      int start = place + 1;
      for (int skipped = 0; skipped < part; skipped++) {
        start = other.behind(start);
      }
      length = 0;
      addFrom(other, 0, place);
      addFrom(other, start, other.behind(start));
      addFrom(other, other.behind(place), other.length);
    }

    private void addFrom(Saying other, int from, int to) {
      for (int i = from; i < to && i < other.length; i++) {
        add(other.words[i]);
      }
    }

    /** The place behind the saying that starts at a place. */
    private int behind(int start) {
      int lacking = 1;
      int at = start;
      for (; at < length && lacking > 0; at++) {
        lacking += partsOf(words[at]) - 1;
      }
      return at;
    }
  }

  /** All that an image keeps. */
  private static final class School {
    final Stranger[] strangers = new Stranger[MOST_STRANGERS];
    final int[] learnt = new int[MOST_STRANGERS];
    int strangerCount = 0;
    final Saying[] sayings = new Saying[MOST_SCHOLARS];
    int scholarCount = 0;
    final int[] coined = new int[NAMES];

    School() {
      for (int i = 0; i < MOST_SCHOLARS; i++) {
        sayings[i] = new Saying();
      }
      Arrays.fill(coined, NONE);
    }

    /** Strangers never change, what they have learnt stands beside them: both may share them. */
    void copy(School other) {
      strangerCount = other.strangerCount;
      for (int who = 0; who < strangerCount; who++) {
        strangers[who] = other.strangers[who];
        learnt[who] = other.learnt[who];
      }
      scholarCount = other.scholarCount;
      for (int scholar = 0; scholar < scholarCount; scholar++) {
        sayings[scholar].copy(other.sayings[scholar]);
      }
      for (int i = 0; i < NAMES; i++) {
        coined[i] = other.coined[i];
      }
    }

    boolean addStranger(int kind, int figure) {
      Stranger newcomer = Stranger.ofKind(kind, figure);
      if (newcomer == null || strangerCount >= MOST_STRANGERS) {
        return false;
      }
      strangers[strangerCount] = newcomer;
      learnt[strangerCount] = 0;
      strangerCount++;
      return true;
    }

    boolean addScholar(Saying his) {
      if (scholarCount >= MOST_SCHOLARS) {
        return false;
      }
      sayings[scholarCount].copy(his);
      scholarCount++;
      return true;
    }

    boolean coinName(int name, int meaning) {
      if (noName(name)) {
        return false;
      }
      coined[name] = meaning;
      return true;
    }

    boolean turnLearnt(int who, int name) {
      if (who < 0 || who >= strangerCount || noName(name)) {
        return false;
      }
      learnt[who] ^= 1 << name;
      return true;
    }

    int coinedCount() {
      int names = 0;
      for (int i = 0; i < NAMES; i++) {
        names += coined[i] == NONE ? 0 : 1;
      }
      return names;
    }

    int lengths() {
      int sum = 0;
      for (int scholar = 0; scholar < scholarCount; scholar++) {
        sum += sayings[scholar].length;
      }
      return sum;
    }
  }

  /** The letters that have come, and the place at which they are read. */
  private static final class Letters {
    private final int[] signs = new int[MOST_LETTERS];
    private int size = 0;
    private int at = 0;

    int size() {
      return size;
    }

    boolean isFull() {
      return size >= MOST_LETTERS;
    }

    int add(int letter) {
      if (size < MOST_LETTERS) {
        signs[size] = letter;
        size++;
      }
      return size;
    }

    void clear() {
      size = 0;
      at = 0;
    }

    void rewind() {
      at = 0;
    }

    int place() {
      return at;
    }

    boolean haveMore() {
      return at < size;
    }

    /** Whether they can be a school; if not, place() is where none can go on. */
    boolean areWellFormed() {
      at = 0;
      boolean formed = passStatement();
      for (int i = 0; i < MOST_LETTERS && formed && haveMore(); i++) {
        formed = passStatement();
      }
      return formed;
    }

    int next() {
      int sign = here();
      at++;
      return sign;
    }

    int nextDigit() {
      return next() - '0';
    }

    int nextName() {
      return next() - 'A';
    }

    /** Reads a saying of which areWellFormed() has seen that it ends. */
    void readSaying(Saying into) {
      into.length = 0;
      int lacking = 1;
      for (int i = 0; i < MOST_WORDS && lacking > 0; i++) {
        int word = next();
        into.add(word);
        lacking += Saying.partsOf(word) - 1;
      }
    }

    private int here() {
      return at >= 0 && at < size ? signs[at] : -1;
    }

    private boolean passStatement() {
      switch (here()) {
        case 's':
          at++;
          return passWithin('0', '9') && passWithin('0', '9') && passWithin(';', ';');
        case 'h':
          at++;
          return passSaying() && passWithin(';', ';');
        case 'c':
          at++;
          return passWithin('A', 'D') && passSaying() && passWithin(';', ';');
        case 'l':
          at++;
          return passWithin('0', '9') && passWithin('A', 'D') && passWithin(';', ';');
        default:
          return false;
      }
    }

    private boolean passWithin(int least, int greatest) {
      int sign = here();
      if (sign < least || sign > greatest) {
        return false;
      }
      at++;
      return true;
    }

    private boolean passSaying() {
      int lacking = 1;
      for (int words = 0; words < MOST_WORDS && lacking > 0; words++) {
        int parts = Saying.partsOf(here());
        if (parts < 0) {
          return false;
        }
        lacking += parts - 1;
        at++;
      }
      return lacking == 0;
    }
  }

  /** One who concludes: a stranger and the meanings of the names that are something to it. */
  private static final class Listener {
    private Stranger stranger = new Stranger(0);
    private final int[] known = new int[NAMES + 1];
    private final int[] stack = new int[MOST_WORDS];

    void become(Stranger one, int[] coined, int learnt) {
      stranger = one;
      for (int i = 0; i < NAMES && i < coined.length; i++) {
        known[i] = ((learnt >> i) & 1) == 1 ? coined[i] : NONE;
      }
      known[NAMES] = NONE;
    }

    /** A name more that no saying has yet. */
    void knowInMind(int meaning) {
      known[NAMES] = meaning;
    }

    /** From the last word back, so that the parts of a word are concluded ahead of it. */
    int meaningOf(Saying saying) {
      int height = 0;
      for (int i = saying.length - 1; i >= 0; i--) {
        height = hear(saying.words[i], height);
      }
      return height > 0 ? stack[height - 1] : 0;
    }

    /** Answers how many meanings lie on the stack then. */
    private int hear(int word, int height) {
      int parts = Saying.partsOf(word);
      if (parts == 1 && height >= 1) {
        stack[height - 1] = stranger.not(stack[height - 1]);
        return height;
      }
      if (parts == 2 && height >= 2) {
        int x = stack[height - 1];
        int y = stack[height - 2];
        stack[height - 2] = word == 'a' ? stranger.and(x, y) : stranger.or(x, y);
        return height - 1;
      }
      if (parts == 0 && height < MOST_WORDS) {
        stack[height] = meaningOfLeaf(word);
        return height + 1;
      }
      return height;
    }

    private int meaningOfLeaf(int word) {
      int fact = word - 'p';
      if (fact >= 0 && fact < FACT_MEANINGS.length) {
        return FACT_MEANINGS[fact];
      }
      int name = word - 'A';
      return noName(name) || known[name] == NONE ? 0 : known[name];
    }
  }

  /**
   * For each meaning the fewest words by which it can be said to a listener. Lengths are looked
   * at one by one, only as far as a question needs.
   */
  private static final class Fewest {
    /**
     * Every meaning that can be said to a deaf one is an or of 8 ands (one for a world) of 8
     * leaves with an n at the most, to others an or or and of 8 ands of three facts with a few
     * n: below 144 words. Twice that and one stays below this bound.
     */
    private static final int LENGTH_BOUND = 300;

    private Stranger stranger = null;
    private final int[] known = new int[NAMES + 1];
    private final int[] words = new int[MEANINGS];
    /** The meanings found, shorter ones first. */
    private final int[] found = new int[MEANINGS];
    private int foundCount = 0;
    /** Where in found the meanings of a length start. */
    private final int[] starts = new int[LENGTH_BOUND];
    /** All sayings of up to so many words have been looked at. */
    private int length = 0;
    private int longest = 0;

    /** Keeps what has been found where it was for a listener who concludes the same. */
    void turnTo(Listener listener) {
      if (isFor(listener)) {
        return;
      }
      stranger = listener.stranger;
      System.arraycopy(listener.known, 0, known, 0, known.length);
      Arrays.fill(words, NONE);
      foundCount = 0;
      starts[1] = 0;
      length = 1;
      longest = 1;
      addLeaves();
    }

    /** -9: it can not be said. */
    int wordsFor(int meaning) {
      int asked = meaning & ALL_WORLDS;
      for (int i = 0; i < LENGTH_BOUND && words[asked] == NONE && !isComplete(); i++) {
        lookAtNextLength();
      }
      return words[asked];
    }

    int meaningsOfLength(int asked) {
      for (int i = 0; i < LENGTH_BOUND && length < asked && !isComplete(); i++) {
        lookAtNextLength();
      }
      int meanings = 0;
      for (int i = 0; i < foundCount; i++) {
        meanings += words[found[i]] == asked ? 1 : 0;
      }
      return meanings;
    }

    int farthestMeaning() {
      for (int i = 0; i < LENGTH_BOUND && !isComplete(); i++) {
        lookAtNextLength();
      }
      int farthest = 0;
      for (int meaning = 1; meaning < MEANINGS; meaning++) {
        farthest = words[meaning] > words[farthest] ? meaning : farthest;
      }
      return farthest;
    }

    private boolean isFor(Listener listener) {
      if (stranger == null || stranger.kind() != listener.stranger.kind()
          || stranger.figure != listener.stranger.figure) {
        return false;
      }
      for (int i = 0; i < known.length; i++) {
        if (known[i] != listener.known[i]) {
          return false;
        }
      }
      return true;
    }

    /** A saying longer than two of the longest and the word that joins them says nothing new. */
    private boolean isComplete() {
      return foundCount >= MEANINGS || length > 2 * longest || length >= LENGTH_BOUND - 1;
    }

    private void lookAtNextLength() {
      if (length < 1 || length >= LENGTH_BOUND - 1) {
        return;
      }
      length++;
      starts[length] = foundCount;
      addNots();
      addJoined();
      if (foundCount > starts[length]) {
        longest = length;
      }
    }

    private void addLeaves() {
      for (int fact = 0; fact < FACT_MEANINGS.length; fact++) {
        add(FACT_MEANINGS[fact]);
      }
      for (int i = 0; i < known.length; i++) {
        if (known[i] != NONE) {
          add(known[i]);
        }
      }
    }

    private void addNots() {
      for (int i = starts[length - 1]; i < starts[length]; i++) {
        add(stranger.not(found[i]));
      }
    }

    private void addJoined() {
      boolean hasSides = stranger.andHasSides();
      for (int one = 1; one <= (length - 1) / 2; one++) {
        int other = length - 1 - one;
        for (int i = starts[one]; i < starts[one + 1] && foundCount < MEANINGS; i++) {
          int x = found[i];
          for (int k = starts[other]; k < starts[other + 1]; k++) {
            int y = found[k];
            add(stranger.and(x, y));
            add(stranger.or(x, y));
            if (hasSides) {
              add(stranger.and(y, x));
            }
          }
        }
      }
    }

    private void add(int meaning) {
      int more = meaning & ALL_WORLDS;
      if (words[more] == NONE && foundCount < MEANINGS) {
        words[more] = length;
        found[foundCount] = more;
        foundCount++;
      }
    }
  }
}
