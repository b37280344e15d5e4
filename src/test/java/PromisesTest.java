/**
 * The document's promises one by one: ordinary inputs, the edges that the document names, wrong
 * inputs. Most answers are worked out by hand; a few large ones stand in the shared test, and
 * hasty's farthest 12 was read off the class (ModelTest checks such lengths on its own).
 * savesByKinds() compares with fresh objects.
 */
public final class PromisesTest {
  private static final int P = 170;
  private static final int Q = 204;
  private static final int R = 240;
  private static final int FAR = 1000000000;

  private static int wrong = 0;
  private static int asked = 0;
  private static String promise = "";

  public static void main(String[] args) {
    newObject();
    feed();
    schoolForms();
    schoolSenses();
    schoolTells();
    stranger();
    learn();
    nameAndCoin();
    sayingAndLeave();
    concludes();
    concludesNames();
    parts();
    wonAndMasters();
    shortest();
    cut();
    many();
    farthest();
    saves();
    joined();
    drops();
    heard();
    unlikeAndAgree();
    rowAndJudge();
    seeds();
    imageAndRestore();
    count();
    readme();
    System.out.println(asked + " answers asked, " + wrong + " wrong");
    if (wrong != 0) {
      System.exit(1);
    }
  }

  private static void due(String call, int got, int want) {
    asked++;
    if (got != want) {
      wrong++;
      System.out.println(promise + ": " + call + " answered " + got + ", due is " + want);
    }
  }

  private static int tell(SaidShorter x, String text) {
    for (int i = 0; i < text.length(); i++) {
      x.feed(text.charAt(i));
    }
    return x.school();
  }

  private static SaidShorter told(String... texts) {
    SaidShorter x = new SaidShorter();
    for (String text : texts) {
      if (tell(x, text) < 1) {
        wrong++;
        System.out.println(promise + ": the school " + text + " did not come");
      }
    }
    return x;
  }

  private static String times(String text, int n) {
    return text.repeat(n);
  }

  private static void newObject() {
    promise = "promise 1";
    SaidShorter x = new SaidShorter();
    for (int what = 0; what <= 5; what++) {
      due("count(" + what + ")", x.count(what), 0);
    }
    for (int what = 11; what <= 16; what++) {
      due("count(" + what + ")", x.count(what), 0);
    }
    for (int name = 0; name < 4; name++) {
      due("name", x.name(name), -9);
    }
    due("masters(-1)", x.masters(-1), 0);
    due("stranger(0, 0)", x.stranger(0, 0), -1);
    due("concludes(-1, 0)", x.concludes(-1, 0), -1);
    due("restore()", x.restore(), -3);
    due("leave()", x.leave(), -3);
  }

  private static void feed() {
    promise = "promise 2";
    SaidShorter x = new SaidShorter();
    due("feed(-1)", x.feed(-1), -4);
    due("feed(min)", x.feed(Integer.MIN_VALUE), -4);
    due("feed(256)", x.feed(256), -6);
    due("feed(max)", x.feed(Integer.MAX_VALUE), -6);
    due("count(4)", x.count(4), 0);
    due("feed(0)", x.feed(0), 1);
    due("feed(255)", x.feed(255), 2);
    for (int i = 3; i <= 80; i++) {
      due("feed", x.feed('s'), i);
    }
    due("feed, an 81st", x.feed('s'), -6);
    due("feed(-1), an 81st", x.feed(-1), -4);
    due("count(4)", x.count(4), 80);
    due("count(14)", x.count(14), 3);
    due("count(16)", x.count(16), 3);
    due("school()", x.school(), -1000);
    due("count(4)", x.count(4), 0);
    due("feed", x.feed('s'), 1);
  }

  private static void form(String text, int want) {
    SaidShorter x = new SaidShorter();
    due(text, tell(x, text), want);
    for (int what = 0; what <= 5; what++) {
      due(text + " count", x.count(what), 0);
    }
    for (int what = 11; what <= 16; what++) {
      due(text + " count", x.count(what), 0);
    }
  }

  private static void schoolForms() {
    promise = "promise 3, kind 1";
    form("", -1000);
    form(";", -1000);
    form("S00;", -1000);
    form("s", -1001);
    form("s0", -1002);
    form("s00", -1003);
    form("sA0;", -1001);
    form("s0p;", -1002);
    form("s00s", -1003);
    form("s000;", -1003);
    form("s00;;", -1004);
    form("s00;s", -1005);
    form("h", -1001);
    form("h;", -1001);
    form("hE;", -1001);
    form("hn;", -1002);
    form("hpq;", -1002);
    form("hap;", -1003);
    form("hapq", -1004);
    form("hoapq;", -1005);
    form("hnnb", -1003);
    form("c", -1001);
    form("cp;", -1001);
    form("cEp;", -1001);
    form("cA;", -1002);
    form("cAp", -1003);
    form("cApp;", -1003);
    form("l", -1001);
    form("lA0;", -1001);
    form("l0", -1002);
    form("l0p;", -1002);
    form("l0E;", -1002);
    form("l0A", -1003);
    form("l0AA;", -1003);
    form("h" + times("n", 20), -1021);
    form("h" + times("n", 20) + "p;", -1021);
    form("h" + times("n", 20) + ";", -1021);
    form("h" + times("a", 20) + "p;", -1021);
    form("h" + times("a", 10) + times("p", 11) + ";", -1021);
    form("cA" + times("n", 20) + "p;", -1022);
    form("hp;h" + times("n", 20) + "p;", -1024);
    form("s00;h" + times("an", 9) + "p;", -1000 - 24);
    form("s60;x", -1004);
    form("s60;hp", -1006);
    form("s00;" + (char) 0, -1004);
    form("hp" + (char) 255, -1002);
    form(times("s00;", 19) + "l0AA", -1079);
    form(times("s00;", 19) + "hnnn", -1080);
  }

  private static void schoolSenses() {
    promise = "promise 3, kind 2";
    form("s60;", -2000);
    form("s90;", -2000);
    form("s59;s70;", -2004);
    form("l0A;", -2000);
    form("s00;l1A;", -2004);
    form("hp;cAp;l0A;s00;", -2007);
    form(times("s00;", 6), -2020);
    form(times("hp;", 7), -2018);
    form(times("hp;", 7) + "s60;", -2018);
    form("s60;" + times("hp;", 7), -2000);
    SaidShorter x = told(times("s00;", 4), times("hp;", 5));
    due("too many strangers", tell(x, "s11;s12;cAp;"), -2004);
    due("count(0)", x.count(0), 4);
    due("too many scholars", tell(x, "cAp;hq;hr;"), -2007);
    due("count(1)", x.count(1), 5);
    due("count(2)", x.count(2), 0);
    due("the last ones", tell(x, "s11;hq;"), 2);
    due("count(0)", x.count(0), 5);
    due("count(1)", x.count(1), 6);
    due("no room at once", tell(x, "s11;"), -2000);
    due("no room at once", tell(x, "hp;"), -2000);
    due("count(16)", x.count(16), 0);
    x.leave();
    due("room again", tell(x, "hr;"), 1);
  }

  private static void schoolTells() {
    promise = "promise 3, what comes";
    SaidShorter x = new SaidShorter();
    due("twenty words", tell(x, "h" + times("n", 19) + "p;"), 1);
    due("saying(0, -1)", x.saying(0, -1), 20);
    due("twenty words coined", tell(x, "cD" + times("a", 9) + times("p", 10) + "x"), -1021);
    due("nineteen words coined", tell(x, "cD" + times("a", 9) + times("p", 10) + ";"), 1);
    due("name(3)", x.name(3), P);
    due("by names ahead of it", tell(x, "cAp;cAnA;cBaAq;"), 3);
    due("name(0)", x.name(0), 85);
    due("name(1)", x.name(1), 85 & Q);
    due("of a name that is not coined", tell(x, "cCC;"), 1);
    due("name(2)", x.name(2), 0);
    due("learnt, told again", tell(x, "s35;s27;l0A;l0C;l1D;l0A;"), 6);
    due("stranger(0, 0)", x.stranger(0, 0), 3);
    due("stranger(0, 1)", x.stranger(0, 1), 5);
    due("stranger(0, 2)", x.stranger(0, 2), 4);
    due("stranger(1, 2)", x.stranger(1, 2), 8);
    x.learn(1, 0, 1);
    tell(x, "l1A;");
    due("stranger(1, 2)", x.stranger(1, 2), 8);
    due("a plain one coins, whoever has learnt", tell(x, "cAr;cCoAB;"), 2);
    due("name(2)", x.name(2), R | (85 & Q));
    due("eighty letters", tell(new SaidShorter(), times("cAp;", 20)), 20);
    due("a fault brings nothing", tell(x, "cAp;l0B;l9A;"), -2008);
    due("name(0)", x.name(0), R);
    due("stranger(0, 2)", x.stranger(0, 2), 4);
  }

  private static void stranger() {
    promise = "promise 4";
    SaidShorter x = told("s09;s50;");
    due("stranger(0, 0)", x.stranger(0, 0), 0);
    due("stranger(0, 1)", x.stranger(0, 1), 9);
    due("stranger(0, 2)", x.stranger(0, 2), 0);
    due("stranger(1, 0)", x.stranger(1, 0), 5);
    due("stranger(1, 1)", x.stranger(1, 1), 0);
    due("stranger(2, 0)", x.stranger(2, 0), -1);
    due("stranger(-1, 0)", x.stranger(-1, 0), -1);
    due("stranger(-2, 0)", x.stranger(-2, 0), -1);
    due("stranger(9, 9)", x.stranger(9, 9), -1);
    due("stranger(0, 3)", x.stranger(0, 3), -2);
    due("stranger(0, -1)", x.stranger(0, -1), -2);
    due("count(11)", x.count(11), 4);
    due("count(12)", x.count(12), 2);
  }

  private static void learn() {
    promise = "promise 5";
    SaidShorter x = told("s09;s50;");
    due("learn(0, 3, 1)", x.learn(0, 3, 1), 0);
    due("learn(0, 3, 1)", x.learn(0, 3, 1), 1);
    due("learn(0, 1, 1)", x.learn(0, 1, 1), 0);
    due("stranger(0, 2)", x.stranger(0, 2), 10);
    due("stranger(1, 2)", x.stranger(1, 2), 0);
    due("learn(0, 3, 0)", x.learn(0, 3, 0), 1);
    due("learn(0, 3, 0)", x.learn(0, 3, 0), 0);
    due("stranger(0, 2)", x.stranger(0, 2), 2);
    due("learn(2, 0, 1)", x.learn(2, 0, 1), -1);
    due("learn(-1, 0, 1)", x.learn(-1, 0, 1), -1);
    due("learn(0, 4, 1)", x.learn(0, 4, 1), -1);
    due("learn(0, -1, 5)", x.learn(0, -1, 5), -1);
    due("learn(0, 0, 2)", x.learn(0, 0, 2), -2);
    due("learn(0, 0, -1)", x.learn(0, 0, -1), -2);
    due("stranger(0, 2)", x.stranger(0, 2), 2);
  }

  private static void nameAndCoin() {
    promise = "promises 6, 7";
    SaidShorter x = new SaidShorter();
    due("name(0)", x.name(0), -9);
    due("name(4)", x.name(4), -1);
    due("name(-1)", x.name(-1), -1);
    due("coin(0, 0)", x.coin(0, 0), -9);
    due("name(0)", x.name(0), 0);
    due("count(2)", x.count(2), 1);
    due("coin(0, 255)", x.coin(0, 255), 0);
    due("coin(3, 7)", x.coin(3, 7), -9);
    due("count(2)", x.count(2), 2);
    due("coin(0, -1)", x.coin(0, -1), 255);
    due("coin(0, -1)", x.coin(0, -1), -9);
    due("name(0)", x.name(0), -9);
    due("count(2)", x.count(2), 1);
    due("coin(3, -2)", x.coin(3, -2), -4);
    due("coin(3, 256)", x.coin(3, 256), -6);
    due("coin(4, -2)", x.coin(4, -2), -1);
    due("coin(-1, 256)", x.coin(-1, 256), -1);
    due("name(3)", x.name(3), 7);
  }

  private static void sayingAndLeave() {
    promise = "promises 8, 9";
    SaidShorter x = told("hapq;hnD;");
    due("saying(0, -1)", x.saying(0, -1), 3);
    due("saying(0, 0)", x.saying(0, 0), 'a');
    due("saying(0, 2)", x.saying(0, 2), 'q');
    due("saying(0, 3)", x.saying(0, 3), -9);
    due("saying(0, 20)", x.saying(0, 20), -9);
    due("saying(0, max)", x.saying(0, Integer.MAX_VALUE), -9);
    due("saying(1, 1)", x.saying(1, 1), 'D');
    due("saying(1, 2)", x.saying(1, 2), -9);
    due("saying(0, -2)", x.saying(0, -2), -4);
    due("saying(2, -2)", x.saying(2, -2), -1);
    due("saying(-1, 0)", x.saying(-1, 0), -1);
    due("leave()", x.leave(), 1);
    due("saying(1, -1)", x.saying(1, -1), -1);
    due("count(3)", x.count(3), 3);
    due("leave()", x.leave(), 0);
    due("leave()", x.leave(), -3);
    due("count(13)", x.count(13), 1);
    tell(x, "hr;");
    due("saying(0, 0)", x.saying(0, 0), 'r');
    due("saying(0, 1)", x.saying(0, 1), -9);
  }

  private static void kind(String stranger, int not, int and, int or) {
    SaidShorter x = told(stranger + "hnp;hapq;hopq;");
    due(stranger + " np", x.concludes(0, 0), not);
    due(stranger + " apq", x.concludes(0, 1), and);
    due(stranger + " opq", x.concludes(0, 2), or);
    due("plain np", x.concludes(-1, 0), 85);
    due("plain apq", x.concludes(-1, 1), 136);
    due("plain opq", x.concludes(-1, 2), 238);
  }

  private static void concludes() {
    promise = "promise 10";
    kind("s03;", 85, 136, 238);
    kind("s13;", 85, 136, 102);
    kind("s23;", 170, 136, 238);
    kind("s33;", 85, 34, 238);
    kind("s43;", 85, 136, 110);
    kind("s48;", 85, 136, 103);
    kind("s41;", 85, 136, 102);
    kind("s53;", 162, 136, 238);
    kind("s59;", 168, 136, 238);
    kind("s58;", 170, 136, 238);
    SaidShorter x = told("s00;hp;hq;hr;");
    due("concludes(0, 0)", x.concludes(0, 0), P);
    due("concludes(0, 1)", x.concludes(0, 1), Q);
    due("concludes(0, 2)", x.concludes(0, 2), R);
    due("concludes(0, 3)", x.concludes(0, 3), -1);
    due("concludes(0, -1)", x.concludes(0, -1), -1);
    due("concludes(1, 0)", x.concludes(1, 0), -1);
    due("concludes(-2, 0)", x.concludes(-2, 0), -1);
    due("concludes(min, 0)", x.concludes(Integer.MIN_VALUE, 0), -1);
    due("count(11)", x.count(11), 5);
    // a (x of two parts) y: the first part ends before the second starts
    SaidShorter y = told("s30;haopqnr;harapq;");
    due("contrary a(o p q)(n r)", y.concludes(0, 0), 238 & R);
    due("contrary a r (a p q)", y.concludes(0, 1), R & ~34);
  }

  private static void concludesNames() {
    promise = "promise 10, names";
    SaidShorter x = told("s00;hA;hnA;");
    due("not coined", x.concludes(-1, 0), 0);
    due("not coined, n", x.concludes(-1, 1), 255);
    x.coin(0, 5);
    due("coined", x.concludes(-1, 0), 5);
    due("coined, not learnt", x.concludes(0, 0), 0);
    due("coined, not learnt, n", x.concludes(0, 1), 255);
    x.learn(0, 0, 1);
    due("learnt", x.concludes(0, 0), 5);
    due("learnt, n", x.concludes(0, 1), 250);
    x.coin(0, -1);
    due("learnt, not coined", x.concludes(0, 0), 0);
    x.coin(0, 6);
    due("learnt, coined anew", x.concludes(0, 0), 6);
  }

  private static void parts() {
    promise = "promise 11";
    SaidShorter x = told("s20;hp;hq;hnnp;hnp;hr;");
    due("parts(-1, 0, 1)", x.parts(-1, 0, 1), 1);
    due("parts(-1, 1, 0)", x.parts(-1, 1, 0), 1);
    due("parts(-1, 0, 2)", x.parts(-1, 0, 2), -9);
    due("parts(-1, 0, 3)", x.parts(-1, 0, 3), 0);
    due("parts(0, 0, 3)", x.parts(0, 0, 3), -9);
    due("parts(-1, 1, 4)", x.parts(-1, 1, 4), 2);
    due("parts(-1, 0, 0)", x.parts(-1, 0, 0), -1);
    due("parts(-1, 0, 5)", x.parts(-1, 0, 5), -1);
    due("parts(-1, 5, 0)", x.parts(-1, 5, 0), -1);
    due("parts(1, 0, 1)", x.parts(1, 0, 1), -1);
    due("parts(-2, 0, 1)", x.parts(-2, 0, 1), -1);
    SaidShorter y = told("hapaqr;hA;");
    due("the last world", y.parts(-1, 0, 1), 7);
  }

  private static void wonAndMasters() {
    promise = "promises 12, 13";
    SaidShorter x = told("s20;hp;hnnp;happ;hnp;hq;hnnnnp;");
    due("won(-1, 0)", x.won(-1, 0), 3);
    due("won(-1, 1)", x.won(-1, 1), 1);
    due("won(-1, 2)", x.won(-1, 2), 1);
    due("won(-1, 3)", x.won(-1, 3), 0);
    due("won(-1, 5)", x.won(-1, 5), 0);
    due("masters(-1)", x.masters(-1), 1 + 8 + 16);
    due("won(0, 0)", x.won(0, 0), 4);
    due("won(0, 3)", x.won(0, 3), 3);
    due("masters(0)", x.masters(0), 1 + 16);
    due("won(0, 6)", x.won(0, 6), -1);
    due("won(0, -1)", x.won(0, -1), -1);
    due("won(1, 0)", x.won(1, 0), -1);
    due("won(-2, 0)", x.won(-2, 0), -1);
    due("masters(1)", x.masters(1), -1);
    due("masters(-2)", x.masters(-2), -1);
    due("equals beat none", told("hp;hp;").masters(-1), 3);
  }

  private static void shortest() {
    promise = "promise 14";
    SaidShorter x = told("s20;s13;");
    due("shortest(-1, p)", x.shortest(-1, P), 1);
    due("shortest(-1, np)", x.shortest(-1, 85), 2);
    due("shortest(-1, opq)", x.shortest(-1, 238), 3);
    due("shortest(-1, 0)", x.shortest(-1, 0), 4);
    due("shortest(-1, 255)", x.shortest(-1, 255), 4);
    due("shortest(-1, 105)", x.shortest(-1, 105), 22);
    due("deaf 0", x.shortest(0, 0), -9);
    due("deaf np", x.shortest(0, 85), -9);
    due("deaf most of three", x.shortest(0, 232), 9);
    due("hasty o o p q r", x.shortest(1, 150), 5);
    due("hasty n", x.shortest(1, 105), 6);
    due("hasty o p p", x.shortest(1, 0), 3);
    x.coin(2, 105);
    due("plain has learnt", x.shortest(-1, 105), 1);
    due("plain 150", x.shortest(-1, 150), 2);
    due("not learnt", x.shortest(1, 105), 6);
    x.learn(1, 2, 1);
    due("learnt", x.shortest(1, 105), 1);
    x.coin(2, 0);
    due("coined anew", x.shortest(1, 105), 6);
    due("coined anew", x.shortest(1, 0), 1);
    x.coin(2, -1);
    due("not coined any more", x.shortest(-1, 0), 4);
    due("shortest(2, 0)", x.shortest(2, 0), -1);
    due("shortest(-2, -1)", x.shortest(-2, -1), -1);
    due("shortest(0, -1)", x.shortest(0, -1), -4);
    due("shortest(0, 256)", x.shortest(0, 256), -6);
  }

  private static void cut() {
    promise = "promise 15";
    SaidShorter x = told("s20;hnnp;hA;hnp;hopapq;");
    due("cut(-1, 0)", x.cut(-1, 0), 2);
    due("a name that concludes nothing", x.cut(-1, 1), -3);
    due("cut(-1, 2)", x.cut(-1, 2), 0);
    due("cut(-1, 3)", x.cut(-1, 3), 4);
    due("deaf nnp", x.cut(0, 0), 2);
    due("deaf np", x.cut(0, 2), 1);
    due("deaf, none", x.cut(0, 1), -9);
    due("cut(1, 0)", x.cut(1, 0), FAR + 1);
    due("cut(-2, 0)", x.cut(-2, 0), FAR + 1);
    due("cut(0, 4)", x.cut(0, 4), FAR + 1);
    due("count(11)", x.count(11), 3);
  }

  private static void many() {
    promise = "promise 16";
    SaidShorter x = told("s20;");
    due("many(-1, 1)", x.many(-1, 1), 3);
    due("many(-1, 2)", x.many(-1, 2), 3);
    due("many(-1, 3)", x.many(-1, 3), 6);
    due("many(-1, 4)", x.many(-1, 4), 20);
    due("deaf 1", x.many(0, 1), 3);
    due("deaf 2", x.many(0, 2), 0);
    due("deaf 3", x.many(0, 3), 6);
    due("deaf 5", x.many(0, 5), 8);
    due("deaf 9", x.many(0, 9), 1);
    due("deaf 20", x.many(0, 20), 0);
    x.coin(0, 0);
    due("plain 1 with a name", x.many(-1, 1), 4);
    x.coin(1, P);
    due("a name for a fact", x.many(-1, 1), 4);
    due("many(1, 1)", x.many(1, 1), -1);
    due("many(-2, 0)", x.many(-2, 0), -1);
    due("many(0, 0)", x.many(0, 0), -4);
    due("many(0, 21)", x.many(0, 21), -6);
  }

  private static void farthest() {
    promise = "promise 17";
    SaidShorter x = told("s20;s10;");
    due("farthest(-1, 0)", x.farthest(-1, 0), 22);
    due("farthest(-1, 1)", x.farthest(-1, 1), 105);
    due("deaf", x.farthest(0, 0), 9);
    due("deaf meaning", x.farthest(0, 1), 232);
    due("hasty", x.farthest(1, 0), 12);
    x.coin(0, 232);
    x.learn(0, 0, 1);
    due("deaf with a name", x.farthest(0, 0), 5);
    due("deaf with a name: apaqr", x.farthest(0, 1), 128);
    due("farthest(2, 0)", x.farthest(2, 0), -1);
    due("farthest(-2, 9)", x.farthest(-2, 9), -1);
    due("farthest(0, 2)", x.farthest(0, 2), -2);
    due("farthest(0, -1)", x.farthest(0, -1), -2);
  }

  private static void saves() {
    promise = "promise 18";
    SaidShorter x = told("s20;hapq;hapq;hoapqr;");
    due("saves(-1, apq)", x.saves(-1, 136), 2);
    due("saves(-1, p)", x.saves(-1, P), -2);
    due("saves(-1, oapqr)", x.saves(-1, 136 | R), 4 - 6);
    due("saves again", x.saves(-1, 136), 2);
    due("deaf apq", x.saves(0, 136), 2);
    due("deaf, can not be said", x.saves(0, 0), -9);
    due("in mind only", x.shortest(-1, 136), 3);
    due("in mind only", x.count(2), 0);
    tell(x, "hA;");
    due("left out", x.saves(0, 136), 2);
    due("plain, ap np", x.saves(-1, 0), 3 - 5);
    due("none there", new SaidShorter().saves(-1, 85), -3);
    due("none there", new SaidShorter().saves(-1, 255), -5);
    savesByKinds();
    due("saves(1, 0)", x.saves(1, 0), FAR + 1);
    due("saves(-2, -1)", x.saves(-2, -1), FAR + 1);
    due("saves(0, -1)", x.saves(0, -1), FAR + 4);
    due("saves(0, 256)", x.saves(0, 256), FAR + 6);
    due("count(14)", x.count(14), 1);
    due("count(16)", x.count(16), 1);
  }

  /** Kinds of one figure asked in turn on one object answer as on objects of their own. */
  private static void savesByKinds() {
    String school = "s01;s11;s21;s31;s41;hoapqaropq;";
    SaidShorter x = told(school);
    due("deaf: oapqarA", x.saves(2, 238), -2);
    for (int meaning = 0; meaning < 256; meaning += 17) {
      for (int who = 4; who >= -1; who--) {
        due("saves(" + who + ", " + meaning + ")", x.saves(who, meaning),
            told(school).saves(who, meaning));
      }
    }
  }

  private static void joined() {
    promise = "promise 19";
    SaidShorter x = told("s20;s30;");
    due("joined(-1, p, q)", x.joined(-1, P, Q), 1);
    due("joined(-1, p, np)", x.joined(-1, P, 85), 1);
    due("joined, the same", x.joined(-1, 105, 105), -22);
    due("joined, far ones", x.joined(-1, 105, 150), 4 - 22 - x.shortest(-1, 150));
    due("joined(-1, 255, p)", x.joined(-1, 255, P), -4);
    due("joined(-1, p, 255)", x.joined(-1, P, 255), -4);
    due("deaf p, r", x.joined(0, P, R), 1);
    due("deaf, one can't", x.joined(0, P, 85), 99);
    due("deaf, other can't", x.joined(0, 85, P), 99);
    due("contrary a p n q", x.joined(1, P, Q), 2);
    due("joined(2, 0, 0)", x.joined(2, 0, 0), FAR + 1);
    due("joined(-2, -1, 0)", x.joined(-2, -1, 0), FAR + 1);
    due("joined(0, -1, 256)", x.joined(0, -1, 256), FAR + 4);
    due("joined(0, 256, -1)", x.joined(0, 256, -1), FAR + 4);
    due("joined(0, 256, 0)", x.joined(0, 256, 0), FAR + 6);
    due("joined(0, 0, 256)", x.joined(0, 0, 256), FAR + 6);
  }

  private static void drops() {
    promise = "promise 20";
    SaidShorter x = told("s20;s30;hnnp;happ;hapnnp;hopapq;hp;haoppq;");
    due("nnp", x.drops(-1, 0, 0), 0);
    due("nnp, his own", x.drops(-1, 0, 1), 3);
    due("deaf nnp", x.drops(0, 0, 0), 2);
    due("deaf nnp", x.drops(0, 0, 1), 2);
    due("app", x.drops(-1, 1, 0), 2);
    due("app", x.drops(-1, 1, 1), 1);
    due("contrary app", x.drops(1, 1, 0), 0);
    due("apnnp", x.drops(-1, 2, 0), 2);
    due("apnnp", x.drops(-1, 2, 1), 1);
    due("deaf apnnp", x.drops(0, 2, 0), 4);
    due("opapq", x.drops(-1, 3, 0), 2);
    due("opapq", x.drops(-1, 3, 1), 1);
    due("p", x.drops(-1, 4, 0), 0);
    due("p", x.drops(-1, 4, 1), 1);
    due("aoppq", x.drops(-1, 5, 0), 2);
    due("aoppq", x.drops(-1, 5, 1), 3);
    due("nothing changes", x.saying(3, -1), 5);
    due("drops(2, 0, 0)", x.drops(2, 0, 0), -1);
    due("drops(0, 6, 9)", x.drops(0, 6, 9), -1);
    due("drops(0, 0, 2)", x.drops(0, 0, 2), -2);
    due("drops(0, 0, -1)", x.drops(0, 0, -1), -2);
  }

  private static void heard() {
    promise = "promise 21";
    SaidShorter x = told("s00;hapq;hnp;");
    due("a", x.heard(-1, 0, 0, 136), 256);
    due("o", x.heard(-1, 0, 0, 238), 512);
    due("neither", x.heard(-1, 0, 0, 1), 0);
    due("p", x.heard(-1, 0, 1, 136), 1);
    due("q", x.heard(-1, 0, 1, Q), 2);
    due("r", x.heard(-1, 0, 1, 192), 4);
    due("names that are not coined", x.heard(-1, 0, 1, 0), 120);
    due("n", x.heard(-1, 1, 0, 85), 128);
    due("n alone", x.heard(-1, 1, 0, P), 0);
    due("the last place", x.heard(-1, 1, 1, 15), 4);
    x.coin(1, P);
    due("p or B", x.heard(-1, 0, 1, 136), 17);
    due("not learnt", x.heard(0, 0, 1, 136), 1);
    due("not learnt", x.heard(0, 0, 1, 0), 120);
    due("the others", x.heard(-1, 0, 1, 0), 104);
    due("nothing changes", x.saying(0, 1), 'p');
    due("255", x.heard(-1, 1, 1, 255), 8 + 32 + 64);
    due("heard(1, 0, 0, 0)", x.heard(1, 0, 0, 0), -1);
    due("heard(-2, 0, 0, 0)", x.heard(-2, 0, 0, 0), -1);
    due("heard(0, 2, -1, 0)", x.heard(0, 2, -1, 0), -1);
    due("heard(0, 0, -1, 256)", x.heard(0, 0, -1, 256), -4);
    due("heard(0, 0, 3, -1)", x.heard(0, 0, 3, -1), -4);
    due("heard(0, 0, 3, 0)", x.heard(0, 0, 3, 0), -6);
    due("heard(0, 1, 2, 0)", x.heard(0, 1, 2, 0), -6);
    due("heard(0, 0, 0, 256)", x.heard(0, 0, 0, 256), -6);
  }

  private static void unlikeAndAgree() {
    promise = "promises 22, 23";
    SaidShorter x = told("s00;s10;s20;");
    due("from no saying all the same", x.agree(), 3);
    tell(x, "hopq;");
    due("unlike(0)", x.unlike(0), 2);
    due("agree()", x.agree(), 1);
    tell(x, "hnp;hr;");
    due("unlike(1)", x.unlike(1), 2);
    due("unlike(2)", x.unlike(2), 1);
    due("agree()", x.agree(), 0);
    due("unlike(3)", x.unlike(3), -1);
    due("unlike(-1)", x.unlike(-1), -1);
    SaidShorter y = told("hp;");
    due("no strangers", y.unlike(0), 0);
    due("no strangers", y.agree(), 0);
    tell(y, "s00;s00;s00;s00;s00;");
    due("all pairs", y.agree(), 10);
    due("all the same", y.unlike(0), 1);
    tell(y, "cAq;hA;l0A;l1A;");
    due("two who have learnt", y.agree(), 4);
    due("two meanings", y.unlike(1), 2);
  }

  private static void rowAndJudge() {
    promise = "promises 24, 25";
    SaidShorter x = new SaidShorter();
    due("row(-1)", x.row(-1), -4);
    due("row(256)", x.row(256), -6);
    for (int i = 1; i <= 6; i++) {
      due("row", x.row(i == 1 ? 0 : 255), i);
    }
    due("a seventh", x.row(0), -6);
    due("a seventh", x.row(-1), -4);
    due("count(5)", x.count(5), 6);
    due("refused", x.judge(0), -1);
    due("it stays", x.count(5), 6);
    due("too many for none", x.judge(-1), 0);
    due("count(5)", x.count(5), 0);
    due("none for none", x.judge(-1), -9);
    x = told("s20;hp;hnp;");
    judged(x, -1, -9, P, 85);
    judged(x, 0, -9, P, P);
    judged(x, 0, 1, P, 85);
    judged(x, -1, 0, Q, 85);
    judged(x, -1, 1, P);
    judged(x, -1, 0);
    judged(x, -1, 0, Q);
    judged(x, -1, 2, P, 85, 0);
    judged(x, -1, 1, P, 84, 0);
    x.row(P);
    due("judge(-2)", x.judge(-2), -1);
    due("judge(1)", x.judge(1), -1);
    due("it stays", x.row(85), 2);
    due("judge(-1)", x.judge(-1), -9);
  }

  private static void judged(SaidShorter x, int who, int want, int... row) {
    for (int meaning : row) {
      x.row(meaning);
    }
    due("judge of " + row.length, x.judge(who), want);
    due("the row has none then", x.count(5), 0);
  }

  private static void seeds() {
    promise = "promise 26";
    SaidShorter x = new SaidShorter();
    // z 1 becomes 1103527590, by 65536 that is 16838, modulo 6 that is 2: r
    due("r", x.seeds(1, 1, R, 0), 1);
    due("r", x.seeds(1, 1, R, 1), 1);
    due("not p", x.seeds(1, 1, P, 1), 0);
    due("five", x.seeds(5, 1, P, 0), 11);
    due("five", x.seeds(5, 1, P, 1), 1);
    // z 0 becomes 12345: by 65536 that is 0: p
    due("p", x.seeds(1, 0, P, 1), 1);
    due("twenty, 255", x.seeds(20, 0, 255, 1) >= 0 ? 1 : 0, 1);
    due("seeds(0, 1, 0, 0)", x.seeds(0, 1, 0, 0), -4);
    due("seeds(21, 1, -1, 0)", x.seeds(21, 1, -1, 0), -4);
    due("seeds(1, 1, -1, 5)", x.seeds(1, 1, -1, 5), -4);
    due("seeds(21, 1, 0, 5)", x.seeds(21, 1, 0, 5), -6);
    due("seeds(1, 1, 256, 5)", x.seeds(1, 1, 256, 5), -6);
    due("seeds(1, 1, 0, 2)", x.seeds(1, 1, 0, 2), -2);
    due("seeds(1, 1, 0, -1)", x.seeds(1, 1, 0, -1), -2);
    int most = 0;
    for (int z = 0; z < 3000; z++) {
      x = z % 500 == 0 ? new SaidShorter() : x;
      most = Math.max(most, x.seeds(1, z, 0, 0));
    }
    due("in three others only facts", most, 15);
  }

  private static void imageAndRestore() {
    promise = "promises 27, 28";
    SaidShorter x = new SaidShorter();
    due("restore()", x.restore(), -3);
    due("image() of nobody", x.image(), 0);
    tell(x, "s27;hapq;hnr;cAp;l0A;");
    due("image()", x.image(), 2);
    x.leave();
    tell(x, "hq;s00;cAq;cBq;l0A;l0C;hr;");
    x.feed('h');
    x.row(3);
    x.row(300);
    due("restore()", x.restore(), 2);
    due("count(0)", x.count(0), 1);
    due("count(1)", x.count(1), 2);
    due("count(2)", x.count(2), 1);
    due("count(3)", x.count(3), 5);
    due("letters stay", x.count(4), 1);
    due("the row stays", x.count(5), 1);
    due("refusals stay", x.count(16), 1);
    due("refusals stay", x.count(13), 1);
    due("name(0)", x.name(0), P);
    due("name(1)", x.name(1), -9);
    due("stranger(0, 2)", x.stranger(0, 2), 1);
    due("saying(1, 1)", x.saying(1, 1), 'r');
    due("saying(1, -1)", x.saying(1, -1), 2);
    x.leave();
    x.leave();
    x.learn(0, 0, 0);
    x.coin(0, 9);
    due("restore() again", x.restore(), 2);
    due("name(0)", x.name(0), P);
    due("stranger(0, 2)", x.stranger(0, 2), 1);
    due("saying(0, 0)", x.saying(0, 0), 'a');
    x.leave();
    due("image() anew", x.image(), 1);
    tell(x, "p;");
    due("restore()", x.restore(), 1);
  }

  private static void count() {
    promise = "promise 29";
    SaidShorter x = told("s00;s11;hapq;hp;cAp;cDq;");
    x.feed('x');
    x.row(0);
    due("count(0)", x.count(0), 2);
    due("count(1)", x.count(1), 2);
    due("count(2)", x.count(2), 2);
    due("count(3)", x.count(3), 4);
    due("count(4)", x.count(4), 1);
    due("count(5)", x.count(5), 1);
    x.name(9);
    x.cut(9, 0);
    x.joined(9, 0, 0);
    x.stranger(0, 9);
    x.restore();
    x.coin(0, -5);
    x.saves(0, -5);
    x.coin(0, 500);
    x.school();
    due("count(11)", x.count(11), 3);
    due("count(12)", x.count(12), 1);
    due("count(13)", x.count(13), 1);
    due("count(14)", x.count(14), 2);
    due("count(15)", x.count(15), 0);
    due("count(16)", x.count(16), 1);
    for (int what : new int[] {-1, 6, 7, 10, 17, 100, Integer.MIN_VALUE, Integer.MAX_VALUE}) {
      due("count(" + what + ")", x.count(what), -9);
    }
    due("count(12)", x.count(12), 1);
  }

  /** The example of README.md, and what it tells of the calls by numbers. */
  private static void readme() {
    promise = "README.md";
    SaidShorter x = new SaidShorter();
    due("two statements", tell(x, "s20;hnnp;"), 2);
    due("concludes(0, 0)", x.concludes(0, 0), P);
    due("shortest(-1, 105)", x.shortest(-1, 105), 22);
    due("cut(-1, 0)", x.cut(-1, 0), 2);
    due("concludes(7, 0)", x.concludes(7, 0), -1);
    due("cut(7, 0)", x.cut(7, 0), FAR + 1);
    due("count(11)", x.count(11), 2);
    due("a letter too few", tell(x, "hnp"), -1003);
    due("no such stranger", tell(x, "hp;l3A;"), -2003);
    due("count(1)", x.count(1), 1);
  }
}
