import java.io.IOException;
import java.math.BigInteger;
import java.util.function.ToIntFunction;

/**
 * The sentences in the sections "Promise 1" to "Promise 29" of the document, each boundary case
 * that they name in a test of its own. Answers are worked out by hand, but where a comment says
 * otherwise. The sentences of "Terms" and of the part II stand in BoundaryTermsTest.
 */
public final class BoundaryPromisesTest {
  private static final int MIN = Integer.MIN_VALUE;
  private static final int MAX = Integer.MAX_VALUE;
  private static final int FAR = 1000000000;

  private final Boundaries b;
  private int promise = 0;

  private BoundaryPromisesTest(Boundaries b) {
    this.b = b;
  }

  public static void main(String[] args) throws IOException {
    Boundaries b = new Boundaries();
    BoundaryPromisesTest all = new BoundaryPromisesTest(b);
    all.newObject();
    all.feed();
    all.school();
    all.stranger();
    all.learn();
    all.name();
    all.coin();
    all.saying();
    all.leave();
    all.concludes();
    all.parts();
    all.won();
    all.masters();
    all.shortest();
    all.cut();
    all.many();
    all.farthest();
    all.saves();
    all.joined();
    all.drops();
    all.heard();
    all.unlike();
    all.agree();
    all.row();
    all.judge();
    all.seeds();
    all.image();
    all.restore();
    all.count();
    b.allSentencesOfPromises();
    b.end();
  }

  private void test(String sentence, String title, java.util.function.Consumer<Boundaries> body) {
    b.test(promise, sentence, title, body);
  }

  private void refuses(String sentence, String call, ToIntFunction<SaidShorter> asks, int want) {
    test(sentence, call, t -> t.refused(call, asks, want));
  }

  private static SaidShorter told(String... schools) {
    return Boundaries.told(schools);
  }

  private static int tell(SaidShorter x, String letters) {
    return Boundaries.tell(x, letters);
  }

  private static SaidShorter eightyLetters() {
    SaidShorter x = told("s29;hnp;cAq;l0A;");
    x.image();
    tell(x, "s13;hapA;");
    x.row(85);
    x.row(136);
    Boundaries.feed(x, "cBr;".repeat(20));
    return x;
  }

  private static SaidShorter sixInRow() {
    SaidShorter x = told("s29;hnp;cAq;l0A;");
    x.image();
    tell(x, "hp;hq;hr;hA;hB;");
    int[] right = {85, 170, 204, 240, 204, 0};
    for (int meaning : right) {
      x.row(meaning);
    }
    return x;
  }

  private static SaidShorter nobody() {
    return new SaidShorter();
  }

  private void newObject() {
    promise = 1;
    test("Nobody", "no stranger", t -> {
      t.due("count(0)", nobody().count(0), 0);
      t.due("stranger(0, 0)", nobody().stranger(0, 0), -1);
    });
    test("Nobody", "no scholar", t -> {
      t.due("count(1)", nobody().count(1), 0);
      t.due("count(3)", nobody().count(3), 0);
      t.due("saying(0, -1)", nobody().saying(0, -1), -1);
      t.due("leave()", nobody().leave(), -3);
    });
    test("Nobody", "no name is coined", t -> {
      t.due("count(2)", nobody().count(2), 0);
      for (int name = 0; name < 4; name++) {
        t.due("name(" + name + ")", nobody().name(name), -9);
      }
    });
    test("Nobody", "no letters, nothing in the row, no image", t -> {
      t.due("count(4)", nobody().count(4), 0);
      t.due("school()", nobody().school(), -1000);
      t.due("count(5)", nobody().count(5), 0);
      t.due("judge(-1)", nobody().judge(-1), -9);
      t.due("restore()", nobody().restore(), -3);
    });
    test("Nobody", "no refusals", t -> {
      for (int what = 11; what <= 16; what++) {
        t.due("count(" + what + ")", nobody().count(what), 0);
      }
    });
    test("Nobody", "a plain one is asked all the same", t -> {
      t.due("masters(-1)", nobody().masters(-1), 0);
      t.due("shortest(-1, 170)", nobody().shortest(-1, 170), 1);
      t.due("agree()", nobody().agree(), 0);
      t.due("image()", nobody().image(), 0);
    });
    test("Nobody", "beside another object that is full", t -> {
      SaidShorter full = sixInRow();
      full.name(9);
      SaidShorter x = new SaidShorter();
      for (int what = 0; what <= 16; what++) {
        t.due("count(" + what + ")", x.count(what), what > 5 && what < 11 ? -9 : 0);
      }
    });
  }

  private void feed() {
    promise = 2;
    String come = "A letter comes: how many there are";
    String room = "-6 (255; 80, too)";
    test(come, "the first, up to the eightieth", t -> {
      SaidShorter x = new SaidShorter();
      for (int n = 1; n <= 80; n++) {
        t.due("feed, the " + n + "th", x.feed('h'), n);
      }
      t.due("count(4)", x.count(4), 80);
    });
    test(come, "the first again behind school()", t -> {
      SaidShorter x = eightyLetters();
      x.school();
      t.due("feed('h')", x.feed('h'), 1);
    });
    test("-4", "0 is the least letter", t -> t.due("feed(0)", nobody().feed(0), 1));
    refuses("-4", "feed(-1)", x -> x.feed(-1), -4);
    refuses("-4", "feed(MIN)", x -> x.feed(MIN), -4);
    test("-4", "ahead of -6: -1 as the eighty-first",
        t -> t.refused("feed(-1)", BoundaryPromisesTest::eightyLetters, x -> x.feed(-1), -4));
    test(room, "255 is the greatest letter", t -> t.due("feed(255)", nobody().feed(255), 1));
    refuses(room, "feed(256)", x -> x.feed(256), -6);
    refuses(room, "feed(MAX)", x -> x.feed(MAX), -6);
    test(room, "the eighty-first letter",
        t -> t.refused("feed('h')", BoundaryPromisesTest::eightyLetters, x -> x.feed('h'), -6));
    test(room, "256 as the eighty-first letter",
        t -> t.refused("feed(256)", BoundaryPromisesTest::eightyLetters, x -> x.feed(256), -6));
    test(room, "the eightieth letter has room", t -> {
      SaidShorter x = new SaidShorter();
      Boundaries.feed(x, "cBr;".repeat(20).substring(1));
      t.due("count(4)", x.count(4), 79);
      t.due("feed(';')", x.feed(';'), 80);
      t.due("feed(';')", x.feed(';'), -6);
    });
  }

  private void school() {
    promise = 3;
    String letters = "The letters, which are no more then, are a SCHOOL: how many STATEMENTS";
    String fault = "the FAULT (nothing is counted)";
    test(letters, "one statement is the fewest", t -> {
      t.due("school()", tell(new SaidShorter(), "hp;"), 1);
    });
    test(letters, "twenty-one are the most in eighty letters", t -> {
      t.due("school()", tell(new SaidShorter(), "hp;".repeat(6) + "cAp;".repeat(15)), 21);
    });
    test(letters, "they are no more behind a school", t -> {
      SaidShorter x = eightyLetters();
      t.due("school()", x.school(), 20);
      t.due("count(4)", x.count(4), 0);
      t.due("school() again", x.school(), -1000);
    });
    test(letters, "they are no more behind a fault of kind 1", t -> {
      SaidShorter x = new SaidShorter();
      t.due("school() of hp", tell(x, "hp"), -1002);
      t.due("count(4)", x.count(4), 0);
      t.due("school() of hq;", tell(x, "hq;"), 1);
      t.due("saying(0, 0)", x.saying(0, 0), 'q');
    });
    test(letters, "they are no more behind a fault of kind 2", t -> {
      SaidShorter x = new SaidShorter();
      t.due("school() of s60;", tell(x, "s60;"), -2000);
      t.due("count(4)", x.count(4), 0);
      t.due("school() of hq;", tell(x, "hq;"), 1);
      t.due("count(0)", x.count(0), 0);
    });
    test(fault, "of no letters at all", t -> t.faulty("", -1000));
    test(fault, "of kind 1", t -> t.faulty("cBr;x", -1004));
    test(fault, "of kind 2", t -> t.faulty("cBr;s60;", -2004));
  }

  private void stranger() {
    promise = 4;
    String of = "Of a STRANGER: KIND (what 0), FIGURE (1), NAMES that are LEARNT (2, bits)";
    test(of, "the least kind, figure and learnt", t -> {
      SaidShorter x = told("s00;");
      t.due("stranger(0, 0)", x.stranger(0, 0), 0);
      t.due("stranger(0, 1)", x.stranger(0, 1), 0);
      t.due("stranger(0, 2)", x.stranger(0, 2), 0);
    });
    test(of, "the greatest kind, figure and learnt, of the last stranger", t -> {
      SaidShorter x = told("s00;s11;s22;s33;s59;l4A;l4B;l4C;l4D;");
      t.due("stranger(4, 0)", x.stranger(4, 0), 5);
      t.due("stranger(4, 1)", x.stranger(4, 1), 9);
      t.due("stranger(4, 2)", x.stranger(4, 2), 15);
      t.due("stranger(3, 2)", x.stranger(3, 2), 0);
    });
    test(of, "each kind", t -> {
      SaidShorter x = told("s10;s20;s30;s40;");
      for (int who = 0; who < 4; who++) {
        t.due("stranger(" + who + ", 0)", x.stranger(who, 0), who + 1);
      }
    });
    test(of, "the first name is bit 0, the last is bit 3", t -> {
      t.due("A", told("s00;l0A;").stranger(0, 2), 1);
      t.due("D", told("s00;l0D;").stranger(0, 2), 8);
    });
    refuses("-1", "stranger(2, 0), two strangers", x -> x.stranger(2, 0), -1);
    refuses("-1", "stranger(5, 0)", x -> x.stranger(5, 0), -1);
    refuses("-1", "stranger(MAX, 0)", x -> x.stranger(MAX, 0), -1);
    refuses("-1", "stranger(-1, 0), a plain one is none of them", x -> x.stranger(-1, 0), -1);
    refuses("-1", "stranger(-2, 0)", x -> x.stranger(-2, 0), -1);
    refuses("-1", "stranger(MIN, 0)", x -> x.stranger(MIN, 0), -1);
    refuses("-1", "stranger(2, 3), ahead of -2", x -> x.stranger(2, 3), -1);
    test("-1", "the first where there is none", t -> t.refused("stranger(0, 0)",
        BoundaryPromisesTest::nobody, x -> x.stranger(0, 0), -1));
    refuses("-2", "stranger(0, 3)", x -> x.stranger(0, 3), -2);
    refuses("-2", "stranger(0, -1)", x -> x.stranger(0, -1), -2);
    refuses("-2", "stranger(1, MAX)", x -> x.stranger(1, MAX), -2);
    refuses("-2", "stranger(1, MIN)", x -> x.stranger(1, MIN), -2);
  }

  private void learn() {
    promise = 5;
    String learnt = "A NAME is LEARNT (1) or not (0): what it was";
    test(learnt, "not learnt at first, then learnt", t -> {
      SaidShorter x = told("s00;");
      t.due("learn(0, 0, 1)", x.learn(0, 0, 1), 0);
      t.due("stranger(0, 2)", x.stranger(0, 2), 1);
    });
    test(learnt, "learnt again it stays learnt", t -> {
      SaidShorter x = told("s00;l0D;");
      t.due("learn(0, 3, 1)", x.learn(0, 3, 1), 1);
      t.due("stranger(0, 2)", x.stranger(0, 2), 8);
    });
    test(learnt, "not any more", t -> {
      SaidShorter x = told("s00;l0A;l0D;");
      t.due("learn(0, 3, 0)", x.learn(0, 3, 0), 1);
      t.due("stranger(0, 2)", x.stranger(0, 2), 1);
    });
    test(learnt, "not learnt and not to be", t -> {
      SaidShorter x = told("s00;l0A;");
      t.due("learn(0, 3, 0)", x.learn(0, 3, 0), 0);
      t.due("stranger(0, 2)", x.stranger(0, 2), 1);
    });
    test(learnt, "by one stranger alone", t -> {
      SaidShorter x = told("s00;s00;");
      x.learn(1, 2, 1);
      t.due("stranger(0, 2)", x.stranger(0, 2), 0);
      t.due("stranger(1, 2)", x.stranger(1, 2), 4);
    });
    refuses("-1 either", "learn(2, 0, 1), two strangers", x -> x.learn(2, 0, 1), -1);
    refuses("-1 either", "learn(-1, 0, 0), a plain one is none of them",
        x -> x.learn(-1, 0, 0), -1);
    refuses("-1 either", "learn(-2, 0, 1)", x -> x.learn(-2, 0, 1), -1);
    refuses("-1 either", "learn(MAX, 0, 1)", x -> x.learn(MAX, 0, 1), -1);
    refuses("-1 either", "learn(MIN, 0, 1)", x -> x.learn(MIN, 0, 1), -1);
    refuses("-1 either", "learn(0, 4, 1)", x -> x.learn(0, 4, 1), -1);
    refuses("-1 either", "learn(0, -1, 1)", x -> x.learn(0, -1, 1), -1);
    refuses("-1 either", "learn(0, MAX, 1)", x -> x.learn(0, MAX, 1), -1);
    refuses("-1 either", "learn(0, MIN, 1)", x -> x.learn(0, MIN, 1), -1);
    refuses("-1 either", "learn(2, 4, 2), once, ahead of -2", x -> x.learn(2, 4, 2), -1);
    refuses("-1 either", "learn(0, 4, 2), ahead of -2", x -> x.learn(0, 4, 2), -1);
    refuses("-2", "learn(0, 1, 2)", x -> x.learn(0, 1, 2), -2);
    refuses("-2", "learn(0, 0, -1)", x -> x.learn(0, 0, -1), -2);
    refuses("-2", "learn(0, 0, MAX)", x -> x.learn(0, 0, MAX), -2);
    refuses("-2", "learn(0, 0, MIN)", x -> x.learn(0, 0, MIN), -2);
  }

  private void name() {
    promise = 6;
    test("MEANING of a NAME", "the least and the greatest, of the first and the last", t -> {
      SaidShorter x = new SaidShorter();
      x.coin(0, 0);
      x.coin(3, 255);
      t.due("name(0)", x.name(0), 0);
      t.due("name(3)", x.name(3), 255);
    });
    test("-9 it is not COINED", "at first", t -> t.due("name(3)", told("cAp;").name(3), -9));
    test("-9 it is not COINED", "not any more", t -> {
      SaidShorter x = told("cDp;");
      x.coin(3, -1);
      t.due("name(3)", x.name(3), -9);
    });
    test("-9 it is not COINED", "no refusal", t -> {
      SaidShorter x = new SaidShorter();
      x.name(0);
      for (int what = 11; what <= 16; what++) {
        t.due("count(" + what + ")", x.count(what), 0);
      }
    });
    refuses("-1", "name(4)", x -> x.name(4), -1);
    refuses("-1", "name(-1)", x -> x.name(-1), -1);
    refuses("-1", "name(MAX)", x -> x.name(MAX), -1);
    refuses("-1", "name(MIN)", x -> x.name(MIN), -1);
  }

  private void coin() {
    promise = 7;
    String coined =
        "A NAME is COINED with a MEANING (-1: it is not any more): what it was (-9 not COINED)";
    test(coined, "what was not coined", t -> {
      SaidShorter x = new SaidShorter();
      t.due("coin(0, 170)", x.coin(0, 170), -9);
      t.due("count(2)", x.count(2), 1);
    });
    test(coined, "with nothing, which is not -9", t -> {
      SaidShorter x = new SaidShorter();
      x.coin(3, 0);
      t.due("count(2)", x.count(2), 1);
      t.due("coin(3, 1)", x.coin(3, 1), 0);
    });
    test(coined, "anew", t -> {
      SaidShorter x = told("cAp;");
      t.due("coin(0, 255)", x.coin(0, 255), 170);
      t.due("name(0)", x.name(0), 255);
      t.due("count(2)", x.count(2), 1);
    });
    test(coined, "-1: it is not any more", t -> {
      SaidShorter x = told("cAp;cBq;");
      t.due("coin(0, -1)", x.coin(0, -1), 170);
      t.due("name(0)", x.name(0), -9);
      t.due("name(1)", x.name(1), 204);
      t.due("count(2)", x.count(2), 1);
    });
    test(coined, "-1 where it is not coined", t -> {
      SaidShorter x = new SaidShorter();
      t.due("coin(2, -1)", x.coin(2, -1), -9);
      t.due("name(2)", x.name(2), -9);
      t.due("count(14)", x.count(14), 0);
    });
    test(coined, "what is learnt stays learnt", t -> {
      SaidShorter x = told("s00;cAp;l0A;hA;");
      x.coin(0, -1);
      t.due("stranger(0, 2)", x.stranger(0, 2), 1);
      x.coin(0, 7);
      t.due("concludes(0, 0)", x.concludes(0, 0), 7);
    });
    refuses("-1", "coin(4, 0)", x -> x.coin(4, 0), -1);
    refuses("-1", "coin(-1, 0)", x -> x.coin(-1, 0), -1);
    refuses("-1", "coin(MAX, 0)", x -> x.coin(MAX, 0), -1);
    refuses("-1", "coin(MIN, 0)", x -> x.coin(MIN, 0), -1);
    refuses("-1", "coin(4, -2), ahead of -4", x -> x.coin(4, -2), -1);
    refuses("-1", "coin(4, 256), ahead of -6", x -> x.coin(4, 256), -1);
    refuses("-4", "coin(0, -2)", x -> x.coin(0, -2), -4);
    refuses("-4", "coin(0, -9)", x -> x.coin(0, -9), -4);
    refuses("-4", "coin(0, MIN)", x -> x.coin(0, MIN), -4);
    test("-6 255", "255 is the greatest", t -> {
      SaidShorter x = new SaidShorter();
      t.due("coin(0, 255)", x.coin(0, 255), -9);
      t.due("name(0)", x.name(0), 255);
    });
    refuses("-6 255", "coin(0, 256)", x -> x.coin(0, 256), -6);
    refuses("-6 255", "coin(0, MAX)", x -> x.coin(0, MAX), -6);
  }

  private void saying() {
    promise = 8;
    String words = "LENGTH of a SCHOLAR's SAYING (i -1), the i-th WORD as its letter (-9 none such)";
    String twenty = "h" + "n".repeat(18) + "nD;";
    test(words, "the least length", t -> t.due("saying(0, -1)", told("hp;").saying(0, -1), 1));
    test(words, "the greatest length",
        t -> t.due("saying(0, -1)", told(twenty).saying(0, -1), 20));
    test(words, "the first and the last word", t -> {
      t.due("saying(0, 0)", told(twenty).saying(0, 0), 'n');
      t.due("saying(0, 19)", told(twenty).saying(0, 19), 'D');
      t.due("saying(0, 0) of one word", told("hp;").saying(0, 0), 'p');
    });
    test(words, "-9 behind the last word", t -> {
      t.due("saying(0, 1)", told("hp;").saying(0, 1), -9);
      t.due("saying(0, 20)", told(twenty).saying(0, 20), -9);
      t.due("saying(0, MAX)", told(twenty).saying(0, MAX), -9);
    });
    test(words, "-9 behind a short saying where a longer one was", t -> {
      SaidShorter x = told(twenty);
      x.leave();
      tell(x, "hq;");
      t.due("saying(0, -1)", x.saying(0, -1), 1);
      t.due("saying(0, 1)", x.saying(0, 1), -9);
    });
    test(words, "-9 is no refusal", t -> {
      SaidShorter x = told("hp;");
      x.saying(0, 1);
      for (int what = 11; what <= 16; what++) {
        t.due("count(" + what + ")", x.count(what), 0);
      }
    });
    test(words, "of the last of six scholars", t -> {
      t.due("saying(5, 0)", told("hp;hp;hp;hp;hp;hr;").saying(5, 0), 'r');
    });
    refuses("-1", "saying(3, 0), three scholars", x -> x.saying(3, 0), -1);
    refuses("-1", "saying(6, 0)", x -> x.saying(6, 0), -1);
    refuses("-1", "saying(-1, 0)", x -> x.saying(-1, 0), -1);
    refuses("-1", "saying(MAX, 0)", x -> x.saying(MAX, 0), -1);
    refuses("-1", "saying(MIN, 0)", x -> x.saying(MIN, 0), -1);
    refuses("-1", "saying(3, -2), ahead of -4", x -> x.saying(3, -2), -1);
    test("-1", "the first where there is none", t -> t.refused("saying(0, -1)",
        BoundaryPromisesTest::nobody, x -> x.saying(0, -1), -1));
    test("-1", "one who has left", t -> {
      SaidShorter x = told("hp;hq;");
      x.leave();
      t.due("saying(1, 0)", x.saying(1, 0), -1);
    });
    refuses("-4 i below -1", "saying(0, -2)", x -> x.saying(0, -2), -4);
    refuses("-4 i below -1", "saying(0, MIN)", x -> x.saying(0, MIN), -4);
  }

  private void leave() {
    promise = 9;
    String last = "The last SCHOLAR is no more: how many are left";
    test(last, "five, and so on to none", t -> {
      SaidShorter x = told("hp;hp;hp;hp;hp;hr;");
      for (int left = 5; left >= 0; left--) {
        t.due("leave()", x.leave(), left);
        t.due("count(1)", x.count(1), left);
      }
    });
    test(last, "the last one, not the first", t -> {
      SaidShorter x = told("hp;hq;hr;");
      x.leave();
      t.due("saying(0, 0)", x.saying(0, 0), 'p');
      t.due("saying(1, 0)", x.saying(1, 0), 'q');
      t.due("saying(2, 0)", x.saying(2, 0), -1);
    });
    test(last, "a seventh scholar has room behind it", t -> {
      SaidShorter x = told("hp;hp;hp;hp;hp;hp;");
      t.due("school(), no room", tell(x, "hr;"), -2000);
      x.leave();
      t.due("school(), room", tell(x, "hr;"), 1);
      t.due("saying(5, 0)", x.saying(5, 0), 'r');
    });
    test("-3 there is none", "at first", t -> t.refused("leave()",
        BoundaryPromisesTest::nobody, x -> x.leave(), -3));
    test("-3 there is none", "behind the last one", t -> {
      SaidShorter x = told("s00;hp;");
      t.due("leave()", x.leave(), 0);
      t.due("leave() again", x.leave(), -3);
      t.due("count(1)", x.count(1), 0);
      t.due("count(13)", x.count(13), 1);
      t.due("school()", tell(x, "hq;"), 1);
      t.due("saying(0, 0)", x.saying(0, 0), 'q');
    });
  }

  private void concludes() {
    promise = 10;
    test("CONCLUDES", "nothing and everything", t -> {
      SaidShorter x = told("s00;hapnp;hopnp;");
      t.due("concludes(0, 0)", x.concludes(0, 0), 0);
      t.due("concludes(0, 1)", x.concludes(0, 1), 255);
    });
    test("CONCLUDES", "the last stranger, the last scholar", t -> {
      SaidShorter x = told("s00;s00;s00;s00;s20;hp;hp;hp;hp;hp;hnr;");
      t.due("concludes(4, 5)", x.concludes(4, 5), 240);
      t.due("concludes(3, 5)", x.concludes(3, 5), 15);
    });
    test("CONCLUDES", "from twenty words", t -> {
      t.due("n, nineteen times", told("h" + "n".repeat(19) + "p;").concludes(-1, 0), 85);
      t.due("to the left", told("h" + "a".repeat(9) + "pqrpqrpqrp;").concludes(-1, 0), 128);
      t.due("to the right", told("h" + "ap".repeat(9) + "nq;").concludes(-1, 0), 34);
    });
    whoAndScholar("concludes", (x, who, scholar) -> x.concludes(who, scholar), -1);
  }

  private interface WhoAndScholar {
    int ask(SaidShorter x, int who, int scholar);
  }

  /** "-1 either": of two strangers and three scholars. */
  private void whoAndScholar(String name, WhoAndScholar call, int want) {
    String sentence = want < 0 ? "-1 either" : "Refused as told: -1 either";
    int[] whos = {2, 5, -2, MAX, MIN};
    for (int who : whos) {
      refuses(sentence, name + " with who " + who, x -> call.ask(x, who, 0), want);
    }
    int[] scholars = {3, 6, -1, MAX, MIN};
    for (int scholar : scholars) {
      refuses(sentence, name + " with scholar " + scholar, x -> call.ask(x, 0, scholar), want);
      refuses(sentence, name + " to a plain one with scholar " + scholar,
          x -> call.ask(x, -1, scholar), want);
    }
    refuses(sentence, name + " with neither, once", x -> call.ask(x, 2, 3), want);
    test(sentence, name + " where nobody is", t -> t.refused(name,
        BoundaryPromisesTest::nobody, x -> call.ask(x, -1, 0), want));
  }

  /** "-1" where a stranger is asked and no scholar is told. */
  private void whoAlone(String sentence, String name, WhoAndScholar call, int want) {
    int[] whos = {2, 5, -2, MAX, MIN};
    for (int who : whos) {
      refuses(sentence, name + " with who " + who, x -> call.ask(x, who, 0), want);
    }
    test(sentence, name + " with who 0 where nobody is", t -> t.refused(name,
        BoundaryPromisesTest::nobody, x -> call.ask(x, 0, 0), want));
  }

  private void parts() {
    promise = 11;
    test("PARTS", "in the first world, in the last world", t -> {
      t.due("all facts not, and nothing", told("hanpanqnr;hapnp;").parts(-1, 0, 1), 0);
      t.due("all facts, and nothing", told("hapaqr;hapnp;").parts(-1, 0, 1), 7);
    });
    test("PARTS", "the least of several worlds", t -> {
      SaidShorter x = told("hq;hr;");
      t.due("parts(-1, 0, 1)", x.parts(-1, 0, 1), 2);
      t.due("parts(-1, 1, 0)", x.parts(-1, 1, 0), 2);
    });
    test("-9", "nowhere", t -> {
      SaidShorter x = told("s20;hp;hnnp;hnp;");
      t.due("parts(-1, 0, 1)", x.parts(-1, 0, 1), -9);
      t.due("parts(0, 0, 2)", x.parts(0, 0, 2), -9);
      t.due("count(11)", x.count(11), 0);
    });
    refuses("-1", "parts(-1, 1, 1), one twice", x -> x.parts(-1, 1, 1), -1);
    refuses("-1", "parts(0, 0, 0), one twice", x -> x.parts(0, 0, 0), -1);
    whoAlone("-1", "parts", (x, who, none) -> x.parts(who, 0, 1), -1);
    int[] scholars = {3, 6, -1, MAX, MIN};
    for (int scholar : scholars) {
      refuses("-1", "parts, one " + scholar, x -> x.parts(-1, scholar, 0), -1);
      refuses("-1", "parts, other " + scholar, x -> x.parts(-1, 0, scholar), -1);
    }
    refuses("-1", "parts(2, 3, 3), once", x -> x.parts(2, 3, 3), -1);
  }

  private void won() {
    promise = 12;
    test("WON", "none", t -> {
      t.due("a scholar alone", told("hp;").won(-1, 0), 0);
      t.due("others conclude unlike things", told("hp;hnq;").won(-1, 0), 0);
    });
    test("WON", "over all five others", t -> {
      t.due("won(-1, 5)", told("hnnp;happ;hopp;happ;hnnp;hp;").won(-1, 5), 5);
    });
    test("WON", "of as many words over none", t -> {
      SaidShorter x = told("happ;hopp;");
      t.due("won(-1, 0)", x.won(-1, 0), 0);
      t.due("won(-1, 1)", x.won(-1, 1), 0);
    });
    whoAndScholar("won", (x, who, scholar) -> x.won(who, scholar), -1);
  }

  private void masters() {
    promise = 13;
    test("MASTERS (bits)", "no scholars", t -> t.due("masters(0)", told("s00;").masters(0), 0));
    test("MASTERS (bits)", "one scholar", t -> t.due("masters(-1)", told("hp;").masters(-1), 1));
    test("MASTERS (bits)", "all six", t -> {
      t.due("masters(-1)", told("hp;hp;hp;hp;hp;hp;").masters(-1), 63);
    });
    test("MASTERS (bits)", "the last of six alone", t -> {
      t.due("masters(-1)", told("hnnp;happ;hopp;happ;hnnp;hp;").masters(-1), 32);
    });
    whoAlone("-1", "masters", (x, who, none) -> x.masters(who), -1);
  }

  private void shortest() {
    promise = 14;
    test("SHORTEST", "one word is the fewest", t -> {
      t.due("shortest(-1, 170)", nobody().shortest(-1, 170), 1);
      t.due("shortest(-1, 240)", nobody().shortest(-1, 240), 1);
    });
    test("SHORTEST", "of the least meaning, of the greatest", t -> {
      t.due("shortest(-1, 0)", nobody().shortest(-1, 0), 4);
      t.due("shortest(-1, 255)", nobody().shortest(-1, 255), 4);
    });
    test("SHORTEST", "of more words than a saying has", t -> {
      t.due("shortest(-1, 105)", nobody().shortest(-1, 105), 22);
    });
    test("-9", "a deaf one is never told of a not", t -> {
      SaidShorter x = told("s20;");
      t.due("shortest(0, 85)", x.shortest(0, 85), -9);
      t.due("shortest(0, 0)", x.shortest(0, 0), -9);
      t.due("shortest(0, 255)", x.shortest(0, 255), -9);
    });
    test("-9", "no refusal", t -> {
      SaidShorter x = told("s20;");
      x.shortest(0, 85);
      for (int what = 11; what <= 16; what++) {
        t.due("count(" + what + ")", x.count(what), 0);
      }
    });
    whoAlone("-1", "shortest", (x, who, none) -> x.shortest(who, 0), -1);
    refuses("-1", "shortest(2, -1), ahead of -4", x -> x.shortest(2, -1), -1);
    refuses("-1", "shortest(-2, 256), ahead of -6", x -> x.shortest(-2, 256), -1);
    refuses("-4", "shortest(-1, -1)", x -> x.shortest(-1, -1), -4);
    refuses("-4", "shortest(0, MIN)", x -> x.shortest(0, MIN), -4);
    refuses("-6 255", "shortest(-1, 256)", x -> x.shortest(-1, 256), -6);
    refuses("-6 255", "shortest(0, MAX)", x -> x.shortest(0, MAX), -6);
  }

  private void cut() {
    promise = 15;
    test("CUT", "nothing can be cut", t -> {
      t.due("cut(-1, 0) of one word", told("hp;").cut(-1, 0), 0);
      t.due("cut(-1, 0) of nothing", told("hapnp;").cut(-1, 0), 0);
    });
    test("CUT", "nineteen of twenty words", t -> {
      t.due("cut(0, 0)", told("s20;h" + "n".repeat(19) + "p;").cut(0, 0), 19);
    });
    test("CUT", "below 0", t -> t.due("cut(-1, 0)", told("hA;").cut(-1, 0), -3));
    test("-9", "nothing can not be said to a deaf one", t -> {
      SaidShorter x = told("s20;hA;");
      t.due("cut(0, 0)", x.cut(0, 0), -9);
      t.due("count(11)", x.count(11), 0);
    });
    whoAndScholar("cut", (x, who, scholar) -> x.cut(who, scholar), FAR + 1);
  }

  private void many() {
    promise = 16;
    test("MANY", "of one word, of twenty words", t -> {
      // contrary's 19 and 20 words from a relaxation apart from the class
      SaidShorter x = told("s30;");
      t.due("many(0, 1)", x.many(0, 1), 3);
      t.due("many(0, 18)", x.many(0, 18), 0);
      t.due("many(0, 19)", x.many(0, 19), 1);
      t.due("many(0, 20)", x.many(0, 20), 1);
    });
    test("MANY", "none", t -> t.due("many(-1, 20)", nobody().many(-1, 20), 0));
    whoAlone("-1", "many", (x, who, none) -> x.many(who, 1), -1);
    refuses("-1", "many(2, 0), ahead of -4", x -> x.many(2, 0), -1);
    refuses("-1", "many(-2, 21), ahead of -6", x -> x.many(-2, 21), -1);
    refuses("-4", "many(-1, 0)", x -> x.many(-1, 0), -4);
    refuses("-4", "many(-1, -1)", x -> x.many(-1, -1), -4);
    refuses("-4", "many(0, MIN)", x -> x.many(0, MIN), -4);
    refuses("-6 20", "many(-1, 21)", x -> x.many(-1, 21), -6);
    refuses("-6 20", "many(-1, 22), though a meaning needs so many", x -> x.many(-1, 22), -6);
    refuses("-6 20", "many(0, MAX)", x -> x.many(0, MAX), -6);
  }

  private void farthest() {
    promise = 17;
    String far = "FARTHEST: how many WORDS (what 0), the MEANING (1)";
    test(far, "more words than a saying has", t -> {
      t.due("farthest(-1, 0)", nobody().farthest(-1, 0), 22);
      t.due("farthest(-1, 1)", nobody().farthest(-1, 1), 105);
    });
    test(far, "what can not be said does not count", t -> {
      t.due("farthest(0, 0)", told("s20;").farthest(0, 0), 9);
      t.due("farthest(0, 1)", told("s20;").farthest(0, 1), 232);
    });
    whoAlone("-1", "farthest", (x, who, none) -> x.farthest(who, 0), -1);
    refuses("-1", "farthest(2, 2), ahead of -2", x -> x.farthest(2, 2), -1);
    refuses("-2", "farthest(-1, 2)", x -> x.farthest(-1, 2), -2);
    refuses("-2", "farthest(0, -1)", x -> x.farthest(0, -1), -2);
    refuses("-2", "farthest(0, MAX)", x -> x.farthest(0, MAX), -2);
    refuses("-2", "farthest(0, MIN)", x -> x.farthest(0, MIN), -2);
  }

  private void saves() {
    promise = 18;
    test("SAVES", "no scholars: the name costs its words and 1", t -> {
      t.due("saves(-1, 170)", nobody().saves(-1, 170), -2);
      t.due("saves(-1, 0)", nobody().saves(-1, 0), -5);
      t.due("saves(-1, 255)", nobody().saves(-1, 255), -5);
    });
    test("SAVES", "six scholars", t -> {
      // six times 3 words to 1, less the 3 words and 1
      t.due("saves(-1, 136)",
          told("hapq;hapq;hapq;hapq;hapq;hapq;").saves(-1, 136), 8);
    });
    test("SAVES", "just nothing", t -> {
      t.due("saves(-1, 136)", told("hapq;hapq;").saves(-1, 136), 0);
    });
    test("-9", "a deaf one can not be told it now", t -> {
      SaidShorter x = told("s20;hp;");
      t.due("saves(0, 85)", x.saves(0, 85), -9);
      t.due("saves(0, 0)", x.saves(0, 0), -9);
      t.due("saves(0, 255)", x.saves(0, 255), -9);
      t.due("count(11)", x.count(11), 0);
    });
    whoAlone("Refused as told: -1", "saves", (x, who, none) -> x.saves(who, 0), FAR + 1);
    refuses("Refused as told: -1", "saves(2, -1), ahead of -4", x -> x.saves(2, -1), FAR + 1);
    refuses("Refused as told: -1", "saves(2, 256), ahead of -6", x -> x.saves(2, 256), FAR + 1);
    refuses("-4", "saves(-1, -1)", x -> x.saves(-1, -1), FAR + 4);
    refuses("-4", "saves(0, MIN)", x -> x.saves(0, MIN), FAR + 4);
    refuses("-6 255", "saves(-1, 256)", x -> x.saves(-1, 256), FAR + 6);
    refuses("-6 255", "saves(0, MAX)", x -> x.saves(0, MAX), FAR + 6);
  }

  private void joined() {
    promise = 19;
    String refused = "Refused as told: -1";
    test("JOINED", "the least meaning, the greatest", t -> {
      t.due("joined(-1, 0, 0)", nobody().joined(-1, 0, 0), 4 - 4 - 4);
      t.due("joined(-1, 255, 255)", nobody().joined(-1, 255, 255), 4 - 4 - 4);
      t.due("joined(-1, 0, 255)", nobody().joined(-1, 0, 255), 4 - 4 - 4);
    });
    test("JOINED", "what is in both is nothing", t -> {
      t.due("joined(-1, 170, 85)", nobody().joined(-1, 170, 85), 4 - 1 - 2);
    });
    whoAlone(refused, "joined", (x, who, none) -> x.joined(who, 0, 0), FAR + 1);
    refuses(refused, "joined(2, -1, 0), ahead of -4", x -> x.joined(2, -1, 0), FAR + 1);
    refuses(refused, "joined(2, 0, 256), ahead of -6", x -> x.joined(2, 0, 256), FAR + 1);
    refuses("-4", "joined(-1, -1, 0)", x -> x.joined(-1, -1, 0), FAR + 4);
    refuses("-4", "joined(-1, 0, -1)", x -> x.joined(-1, 0, -1), FAR + 4);
    refuses("-4", "joined(0, MIN, 0)", x -> x.joined(0, MIN, 0), FAR + 4);
    refuses("-4", "joined(0, 0, MIN)", x -> x.joined(0, 0, MIN), FAR + 4);
    refuses("-4", "joined(-1, -1, -1), once", x -> x.joined(-1, -1, -1), FAR + 4);
    refuses("-4", "joined(-1, 256, -1), ahead of -6", x -> x.joined(-1, 256, -1), FAR + 4);
    refuses("-4", "joined(-1, -1, 256), ahead of -6", x -> x.joined(-1, -1, 256), FAR + 4);
    refuses("-6 255", "joined(-1, 256, 0)", x -> x.joined(-1, 256, 0), FAR + 6);
    refuses("-6 255", "joined(-1, 0, 256)", x -> x.joined(-1, 0, 256), FAR + 6);
    refuses("-6 255", "joined(0, MAX, 0)", x -> x.joined(0, MAX, 0), FAR + 6);
    refuses("-6 255", "joined(0, 0, MAX)", x -> x.joined(0, 0, MAX), FAR + 6);
    refuses("-6 255", "joined(-1, 256, 256), once", x -> x.joined(-1, 256, 256), FAR + 6);
  }

  private void drops() {
    promise = 20;
    String ways = "DROPS: how many ways (what 0), the least LENGTH (1)";
    test(ways, "nothing to drop from one word", t -> {
      t.due("drops(-1, 0, 0)", told("hp;").drops(-1, 0, 0), 0);
      t.due("drops(-1, 0, 1)", told("hp;").drops(-1, 0, 1), 1);
    });
    test(ways, "each n of nineteen to a deaf one", t -> {
      SaidShorter x = told("s20;h" + "n".repeat(19) + "p;");
      t.due("drops(0, 0, 0)", x.drops(0, 0, 0), 19);
      t.due("drops(0, 0, 1)", x.drops(0, 0, 1), 19);
    });
    test(ways, "either part of each of nine a", t -> {
      SaidShorter x = told("h" + "a".repeat(9) + "p".repeat(10) + ";");
      t.due("drops(-1, 0, 0)", x.drops(-1, 0, 0), 18);
      t.due("drops(-1, 0, 1)", x.drops(-1, 0, 1), 1);
    });
    whoAndScholar("drops", (x, who, scholar) -> x.drops(who, scholar, 0), -1);
    refuses("-1 either", "drops(2, 0, 2), ahead of -2", x -> x.drops(2, 0, 2), -1);
    refuses("-1 either", "drops(0, 3, -1), ahead of -2", x -> x.drops(0, 3, -1), -1);
    refuses("-2", "drops(-1, 0, 2)", x -> x.drops(-1, 0, 2), -2);
    refuses("-2", "drops(0, 0, -1)", x -> x.drops(0, 0, -1), -2);
    refuses("-2", "drops(0, 0, MAX)", x -> x.drops(0, 0, MAX), -2);
    refuses("-2", "drops(0, 0, MIN)", x -> x.drops(0, 0, MIN), -2);
  }

  private void heard() {
    promise = 21;
    String place = "-6 (no such place; 255)";
    test("HEARD (bits)", "none", t -> {
      t.due("heard(-1, 0, 0, 1)", told("hp;").heard(-1, 0, 0, 1), 0);
    });
    test("HEARD (bits)", "the first bit, the last bit", t -> {
      t.due("p is bit 0", told("hr;").heard(-1, 0, 0, 170), 1);
      t.due("o is bit 9", told("hapq;").heard(-1, 0, 0, 238), 512);
    });
    test("HEARD (bits)", "all facts and names at once", t -> {
      t.due("op..np", told("hoopnpD;").heard(-1, 0, 5, 255), 127);
    });
    test("HEARD (bits)", "at the last of twenty places", t -> {
      t.due("heard(-1, 0, 19, 15)",
          told("h" + "n".repeat(19) + "p;").heard(-1, 0, 19, 15), 4);
    });
    whoAndScholar("heard", (x, who, scholar) -> x.heard(who, scholar, 0, 0), -1);
    refuses("-1 either", "heard(2, 0, -1, 0), ahead of -4", x -> x.heard(2, 0, -1, 0), -1);
    refuses("-1 either", "heard(0, 3, 0, 256), ahead of -6", x -> x.heard(0, 3, 0, 256), -1);
    refuses("-4 (i, meaning)", "heard(-1, 0, -1, 0)", x -> x.heard(-1, 0, -1, 0), -4);
    refuses("-4 (i, meaning)", "heard(0, 0, MIN, 0)", x -> x.heard(0, 0, MIN, 0), -4);
    refuses("-4 (i, meaning)", "heard(-1, 0, 0, -1)", x -> x.heard(-1, 0, 0, -1), -4);
    refuses("-4 (i, meaning)", "heard(0, 0, 0, MIN)", x -> x.heard(0, 0, 0, MIN), -4);
    refuses("-4 (i, meaning)", "heard(0, 0, -1, -1), once", x -> x.heard(0, 0, -1, -1), -4);
    refuses("-4 (i, meaning)", "heard(0, 0, -1, 256), ahead of -6",
        x -> x.heard(0, 0, -1, 256), -4);
    refuses("-4 (i, meaning)", "heard(0, 0, 2, -1), ahead of -6",
        x -> x.heard(0, 0, 2, -1), -4);
    refuses(place, "heard(-1, 0, 2, 0), two words", x -> x.heard(-1, 0, 2, 0), -6);
    refuses(place, "heard(-1, 2, 1, 0), one word", x -> x.heard(-1, 2, 1, 0), -6);
    refuses(place, "heard(0, 1, MAX, 0)", x -> x.heard(0, 1, MAX, 0), -6);
    refuses(place, "heard(-1, 0, 0, 256)", x -> x.heard(-1, 0, 0, 256), -6);
    refuses(place, "heard(0, 0, 0, MAX)", x -> x.heard(0, 0, 0, MAX), -6);
    refuses(place, "heard(0, 0, 2, 256), once", x -> x.heard(0, 0, 2, 256), -6);
    test(place, "the twenty-first place of twenty words", t -> {
      SaidShorter x = told("h" + "n".repeat(19) + "p;");
      t.due("heard(-1, 0, 20, 15)", x.heard(-1, 0, 20, 15), -6);
    });
  }

  private void unlike() {
    promise = 22;
    test("UNLIKE", "no strangers", t -> t.due("unlike(0)", told("hp;").unlike(0), 0));
    test("UNLIKE", "one stranger", t -> t.due("unlike(0)", told("s00;hp;").unlike(0), 1));
    test("UNLIKE", "five strangers, all unlike", t -> {
      SaidShorter x = told("s00;s10;s20;s41;s53;hornp;");
      int[] due = {245, 165, 250, 167, 242};
      for (int who = 0; who < 5; who++) {
        t.due("concludes(" + who + ", 0)", x.concludes(who, 0), due[who]);
      }
      t.due("unlike(0)", x.unlike(0), 5);
    });
    test("UNLIKE", "five strangers, all alike", t -> {
      t.due("unlike(0)", told("s00;s10;s20;s30;s40;hp;").unlike(0), 1);
    });
    int[] scholars = {3, 6, -1, MAX, MIN};
    for (int scholar : scholars) {
      refuses("-1", "unlike(" + scholar + ")", x -> x.unlike(scholar), -1);
    }
    test("-1", "unlike(0) where nobody is", t -> t.refused("unlike(0)",
        BoundaryPromisesTest::nobody, x -> x.unlike(0), -1));
  }

  private void agree() {
    promise = 23;
    test("AGREE: how many pairs", "no strangers", t -> {
      t.due("agree()", nobody().agree(), 0);
      t.due("agree() of a scholar", told("hp;").agree(), 0);
    });
    test("AGREE: how many pairs", "one stranger", t -> {
      t.due("agree()", told("s00;hp;").agree(), 0);
    });
    test("AGREE: how many pairs", "all ten pairs of five", t -> {
      t.due("agree()", told("s00;s10;s20;s30;s40;hp;").agree(), 10);
    });
    test("AGREE: how many pairs", "no pair of five", t -> {
      t.due("agree()", told("s00;s10;s20;s41;s53;hornp;").agree(), 0);
    });
    test("AGREE: how many pairs", "no scholars: nothing to part them", t -> {
      t.due("agree()", told("s00;s20;").agree(), 1);
    });
  }

  private void row() {
    promise = 24;
    String more = "A MEANING more of the ROW: how many";
    String room = "-6 (255; 6, too)";
    test(more, "the first, up to the sixth", t -> {
      SaidShorter x = new SaidShorter();
      for (int n = 1; n <= 6; n++) {
        t.due("row, the " + n + "th", x.row(n), n);
      }
      t.due("count(5)", x.count(5), 6);
    });
    test(more, "the first again behind judge()", t -> {
      SaidShorter x = sixInRow();
      x.judge(-1);
      t.due("row(0)", x.row(0), 1);
    });
    test("-4", "0 is the least", t -> t.due("row(0)", nobody().row(0), 1));
    refuses("-4", "row(-1)", x -> x.row(-1), -4);
    refuses("-4", "row(MIN)", x -> x.row(MIN), -4);
    test("-4", "ahead of -6: -1 as the seventh",
        t -> t.refused("row(-1)", BoundaryPromisesTest::sixInRow, x -> x.row(-1), -4));
    test(room, "255 is the greatest", t -> t.due("row(255)", nobody().row(255), 1));
    refuses(room, "row(256)", x -> x.row(256), -6);
    refuses(room, "row(MAX)", x -> x.row(MAX), -6);
    test(room, "a seventh",
        t -> t.refused("row(0)", BoundaryPromisesTest::sixInRow, x -> x.row(0), -6));
    test(room, "256 as the seventh",
        t -> t.refused("row(256)", BoundaryPromisesTest::sixInRow, x -> x.row(256), -6));
  }

  private void judge() {
    promise = 25;
    String right = "-9 (the ROW has none then)";
    test("JUDGED", "the first scholar, the last of six", t -> {
      SaidShorter x = sixInRow();
      x.judge(-1);
      int[] firstWrong = {84, 170, 204, 240, 204, 0};
      int[] lastWrong = {85, 170, 204, 240, 204, 1};
      t.due("the first", judged(x, firstWrong), 0);
      t.due("the last", judged(x, lastWrong), 5);
    });
    test("JUDGED", "the row has none then, whatever is answered", t -> {
      SaidShorter x = told("hp;hq;");
      t.due("the first is wrong", judged(x, 0, 204), 0);
      t.due("count(5)", x.count(5), 0);
      t.due("too few", judged(x, 170), 1);
      t.due("count(5)", x.count(5), 0);
      t.due("too many", judged(x, 170, 204, 0), 2);
      t.due("count(5)", x.count(5), 0);
    });
    test(right, "all six are right", t -> {
      SaidShorter x = sixInRow();
      t.due("judge(-1)", x.judge(-1), -9);
      t.due("count(5)", x.count(5), 0);
      t.due("judge(-1) again: too few", x.judge(-1), 0);
    });
    test(right, "none told, no scholars", t -> {
      SaidShorter x = new SaidShorter();
      t.due("judge(-1)", x.judge(-1), -9);
      t.due("count(5)", x.count(5), 0);
    });
    whoAlone("-1 (it stays)", "judge", (x, who, none) -> x.judge(who), -1);
    test("-1 (it stays)", "six in the row", t -> {
      t.refused("judge(1)", BoundaryPromisesTest::sixInRow, x -> x.judge(1), -1);
      SaidShorter x = sixInRow();
      x.judge(1);
      t.due("count(5)", x.count(5), 6);
      t.due("judge(-1)", x.judge(-1), -9);
    });
  }

  private static int judged(SaidShorter x, int... meanings) {
    for (int meaning : meanings) {
      x.row(meaning);
    }
    return x.judge(-1);
  }

  private void seeds() {
    promise = 26;
    String lengths = "SEEDS: LENGTHS (what 0), how many mean that to a PLAIN one (1)";
    test(lengths, "one saying of one word", t -> {
      // z 0 becomes 12345, by 65536 that is 0: p
      t.due("seeds(1, 0, 170, 0)", nobody().seeds(1, 0, 170, 0), 1);
      t.due("seeds(1, 0, 170, 1)", nobody().seeds(1, 0, 170, 1), 1);
      t.due("seeds(1, 0, 204, 1)", nobody().seeds(1, 0, 204, 1), 0);
    });
    test(lengths, "twenty sayings", t -> {
      for (int z = -5; z <= 5; z++) {
        Drawn drawn = new Drawn(z);
        int sum = 0;
        int hits = 0;
        for (int i = 0; i < 20; i++) {
          int length = drawn.words;
          hits += drawn.saying(0) == 170 ? 1 : 0;
          sum += drawn.words - length;
        }
        t.due("seeds(20, " + z + ", 170, 0)", nobody().seeds(20, z, 170, 0), sum);
        t.due("seeds(20, " + z + ", 170, 1)", nobody().seeds(20, z, 170, 1), hits);
      }
    });
    test(lengths, "the least and the greatest meaning", t -> {
      int[] seeds = {seedOf(0), seedOf(255)};
      t.due("nothing", nobody().seeds(1, seeds[0], 0, 1), 1);
      t.due("everything", nobody().seeds(1, seeds[1], 255, 1), 1);
      t.due("not everything", nobody().seeds(1, seeds[0], 255, 1), 0);
    });
    refuses("-4 (n, meaning)", "seeds(0, 1, 0, 0)", x -> x.seeds(0, 1, 0, 0), -4);
    refuses("-4 (n, meaning)", "seeds(MIN, 1, 0, 0)", x -> x.seeds(MIN, 1, 0, 0), -4);
    refuses("-4 (n, meaning)", "seeds(1, 1, -1, 0)", x -> x.seeds(1, 1, -1, 0), -4);
    refuses("-4 (n, meaning)", "seeds(1, 1, MIN, 0)", x -> x.seeds(1, 1, MIN, 0), -4);
    refuses("-4 (n, meaning)", "seeds(0, 1, -1, 0), once", x -> x.seeds(0, 1, -1, 0), -4);
    refuses("-4 (n, meaning)", "seeds(21, 1, -1, 0), ahead of -6",
        x -> x.seeds(21, 1, -1, 0), -4);
    refuses("-4 (n, meaning)", "seeds(0, 1, 256, 0), ahead of -6",
        x -> x.seeds(0, 1, 256, 0), -4);
    refuses("-4 (n, meaning)", "seeds(0, 1, 0, 2), ahead of -2", x -> x.seeds(0, 1, 0, 2), -4);
    refuses("-6 (20; 255)", "seeds(21, 1, 0, 0)", x -> x.seeds(21, 1, 0, 0), -6);
    refuses("-6 (20; 255)", "seeds(MAX, 1, 0, 0)", x -> x.seeds(MAX, 1, 0, 0), -6);
    refuses("-6 (20; 255)", "seeds(1, 1, 256, 0)", x -> x.seeds(1, 1, 256, 0), -6);
    refuses("-6 (20; 255)", "seeds(1, 1, MAX, 0)", x -> x.seeds(1, 1, MAX, 0), -6);
    refuses("-6 (20; 255)", "seeds(21, 1, 256, 0), once", x -> x.seeds(21, 1, 256, 0), -6);
    refuses("-6 (20; 255)", "seeds(21, 1, 0, 2), ahead of -2", x -> x.seeds(21, 1, 0, 2), -6);
    refuses("-6 (20; 255)", "seeds(1, 1, 256, -1), ahead of -2",
        x -> x.seeds(1, 1, 256, -1), -6);
    refuses("-2", "seeds(1, 1, 0, 2)", x -> x.seeds(1, 1, 0, 2), -2);
    refuses("-2", "seeds(20, 1, 255, -1)", x -> x.seeds(20, 1, 255, -1), -2);
    refuses("-2", "seeds(1, 1, 0, MAX)", x -> x.seeds(1, 1, 0, MAX), -2);
    refuses("-2", "seeds(1, 1, 0, MIN)", x -> x.seeds(1, 1, 0, MIN), -2);
  }

  /** The least seed by which a saying is drawn that means this. */
  private static int seedOf(int meaning) {
    int z = 0;
    while (new Drawn(z).saying(0) != meaning) {
      z++;
    }
    return z;
  }

  /** Sayings drawn apart from the class, in numbers without bounds. */
  private static final class Drawn {
    private static final BigInteger INTS = BigInteger.ONE.shiftLeft(32);
    private BigInteger z;
    int words = 0;

    Drawn(int seed) {
      z = BigInteger.valueOf(seed);
    }

    private int below(int n) {
      z = z.multiply(BigInteger.valueOf(1103515245)).add(BigInteger.valueOf(12345)).mod(INTS);
      return z.clearBit(31).divide(BigInteger.valueOf(65536)).mod(BigInteger.valueOf(n))
          .intValue();
    }

    /** What a plain one concludes from the next saying, which is in so many others. */
    int saying(int others) {
      int[] facts = {170, 204, 240};
      words++;
      int draw = below(others == 3 ? 3 : 6);
      if (draw < 3) {
        return facts[draw];
      }
      int x = saying(others + 1);
      if (draw == 3) {
        return 255 - x;
      }
      int y = saying(others + 1);
      return draw == 4 ? x & y : x | y;
    }
  }

  private void image() {
    promise = 27;
    String taken = "THE IMAGE is taken: how many SCHOLARS";
    test(taken, "of nobody", t -> {
      SaidShorter x = new SaidShorter();
      t.due("image()", x.image(), 0);
      tell(x, "s00;hp;cAp;");
      t.due("restore()", x.restore(), 0);
      t.due("count(0)", x.count(0), 0);
      t.due("count(1)", x.count(1), 0);
      t.due("count(2)", x.count(2), 0);
    });
    test(taken, "of all that there is room for", t -> {
      SaidShorter x = told("s00;s11;s22;s33;s44;", "hp;hp;hp;hp;hp;hr;cAp;cBp;cCp;cDp;");
      t.due("image()", x.image(), 6);
      for (int i = 0; i < 6; i++) {
        x.leave();
      }
      x.coin(3, -1);
      t.due("restore()", x.restore(), 6);
      t.due("count(0)", x.count(0), 5);
      t.due("count(2)", x.count(2), 4);
      t.due("saying(5, 0)", x.saying(5, 0), 'r');
    });
    test(taken, "anew: the one before is no more", t -> {
      SaidShorter x = told("hp;hq;");
      x.image();
      x.leave();
      t.due("image()", x.image(), 1);
      t.due("restore()", x.restore(), 1);
    });
  }

  private void restore() {
    promise = 28;
    String restored = "It is RESTORED: how many SCHOLARS";
    test(restored, "twice from one image", t -> {
      SaidShorter x = told("s00;hnp;cAp;");
      x.image();
      for (int again = 0; again < 2; again++) {
        x.leave();
        x.coin(0, 9);
        x.learn(0, 0, 1);
        tell(x, "hq;s00;");
        t.due("restore()", x.restore(), 1);
        t.due("count(0)", x.count(0), 1);
        t.due("saying(0, 0)", x.saying(0, 0), 'n');
        t.due("name(0)", x.name(0), 170);
        t.due("stranger(0, 2)", x.stranger(0, 2), 0);
      }
    });
    test("-3 there is none", "at first", t -> t.refused("restore()",
        () -> told("s00;hp;cAp;"), x -> x.restore(), -3));
    test("-3 there is none", "none comes by a refused one", t -> {
      SaidShorter x = told("hp;");
      t.due("restore()", x.restore(), -3);
      t.due("restore() again", x.restore(), -3);
      t.due("count(13)", x.count(13), 2);
      t.due("count(1)", x.count(1), 1);
    });
  }

  private void count() {
    promise = 29;
    String what = "0 STRANGERS, 1 SCHOLARS, 2 NAMES that are COINED, 3 LENGTHS of all SAYINGS, "
        + "4 letters, 5 in the ROW, 11 .. 16 REFUSALS -1 .. -6";
    test(what, "all that there is room for", t -> {
      String twenty = "h" + "n".repeat(19) + "p;";
      SaidShorter x = told("s00;s00;s00;s00;s00;cAp;cBp;cCp;cDp;", twenty + twenty + twenty,
          twenty + twenty + twenty);
      for (int i = 0; i < 80; i++) {
        x.feed('h');
      }
      for (int i = 0; i < 6; i++) {
        x.row(0);
      }
      int[] due = {5, 6, 4, 120, 80, 6};
      for (int i = 0; i <= 5; i++) {
        t.due("count(" + i + ")", x.count(i), due[i]);
      }
    });
    test(what, "each refusal where it belongs", t -> {
      SaidShorter x = new SaidShorter();
      int[] times = {0, 1, 2, 3, 4, 0, 6};
      for (int i = 0; i < 6; i++) {
        x.name(i < times[1] ? 4 : 0);
        x.farthest(-1, i < times[2] ? 2 : 0);
        x.shortest(-1, i < times[4] ? -1 : 0);
        x.shortest(-1, i < times[6] ? 256 : 0);
      }
      x.leave();
      x.restore();
      x.leave();
      for (int r = 1; r <= 6; r++) {
        t.due("count(" + (10 + r) + ")", x.count(10 + r), times[r]);
      }
    });
    test(what, "-5 is never answered", t -> t.due("count(15)", sixInRow().count(15), 0));
    test(what, "refusals told otherwise count, too", t -> {
      SaidShorter x = new SaidShorter();
      x.cut(-1, 0);
      x.saves(-1, -1);
      x.joined(-1, 256, 0);
      t.due("count(11)", x.count(11), 1);
      t.due("count(14)", x.count(14), 1);
      t.due("count(16)", x.count(16), 1);
    });
    int[] others = {-1, 6, 7, 10, 17, 18, MAX, MIN};
    for (int other : others) {
      test("-9 for another what", "count(" + other + "), no refusal", t -> {
        SaidShorter x = Boundaries.ordinary();
        t.due("count(" + other + ")", x.count(other), -9);
        for (int r = 11; r <= 16; r++) {
          t.due("count(" + r + ")", x.count(r), 0);
        }
      });
    }
  }
}
