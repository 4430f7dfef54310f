/** Each promise of the document by hand: ordinary inputs, the edges that it names, wrong inputs. */
public final class PromisesTest {
  private static final int NONE = -1000000, BAD = -1000001, STATE = -1000002, FULL = -1000003;
  private static final int NULL = -1000011, PLACE = -1000012, KIND = -1000013, SIZE = -1000014, STORE = -1000015;
  private static final int MIN = Integer.MIN_VALUE, MAX = Integer.MAX_VALUE;
  /** One member of each sort: l gives 1, f gives 3, o gives 0, c gives 2 of 1, m gives 0 of 2 and 0. */
  private static final String FIVE = "w4;u0;u0;u2;u1;l1,2;f3,1;o0,1;c2,3,1;m0,1,2,0;";
  private static int wrong;
  private static String promise = "";

  private static void due(int got, int want, String call) {
    if (got == want) return;
    wrong++;
    System.out.println(promise + ": " + call + " answered " + got + ", due is " + want);
  }

  private static int tell(WantedTypes x, String text) {
    for (int i = 0; i < text.length(); i++) x.feed(text.charAt(i));
    return x.world();
  }

  private static WantedTypes of(String text) {
    WantedTypes x = new WantedTypes();
    if (tell(x, text) < 1) {
      wrong++;
      System.out.println(promise + ": no world of " + text);
    }
    return x;
  }

  private static void code(WantedTypes x, int row, int... members) {
    x.row(row, 0, members.length);
    for (int i = 0; i < members.length; i++) x.set(row, i, members[i]);
  }

  public static void main(String[] args) {
    newObject();
    rows();
    copies();
    tapes();
    faults();
    hides();
    costs();
    aboves();
    undos();
    members();
    types();
    manies();
    lists();
    words();
    places();
    hads();
    neededs();
    withouts();
    shares();
    draws();
    images();
    kinds();
    asks();
    counts();
    statuses();
    System.out.println(wrong == 0 ? "all promises hold" : wrong + " answers are wrong");
    if (wrong != 0) System.exit(1);
  }

  private static void newObject() {
    promise = "1 a new object";
    WantedTypes x = new WantedTypes();
    for (int what = 0; what < 6; what++) due(x.count(what), 0, "count(" + what + ")");
    due(x.had(), STATE, "had()");
    due(x.undo(), STATE, "undo()");
    due(x.fault(), 0, "fault()");
    due(x.status(), 0, "status()");
    due(x.trace(0), NONE, "trace(0)");
    due(x.drop(7), NULL, "drop(7)");
    due(WantedTypes.NONE, NONE, "NONE");
    due(WantedTypes.BAD, BAD, "BAD");
    due(WantedTypes.STATE, STATE, "STATE");
    due(WantedTypes.FULL, FULL, "FULL");
  }

  private static void rows() {
    promise = "2 row";
    WantedTypes x = new WantedTypes();
    due(x.row(0, 0, 0), 0, "row(0, 0, 0)");
    due(x.row(7, 2, 40), 40, "row(7, 2, 40)");
    due(x.row(-1, 0, 1), BAD, "row(-1, 0, 1)");
    due(x.row(8, 0, 1), BAD, "row(8, 0, 1)");
    due(x.row(0, -1, 1), BAD, "row(0, -1, 1)");
    due(x.row(0, 3, 1), BAD, "row(0, 3, 1)");
    due(x.row(0, 0, 41), BAD, "row(0, 0, 41)");
    due(x.row(8, 0, -1), BAD, "BAD comes ahead of SIZE");
    due(x.row(7, 0, -1), SIZE, "row(7, 0, -1)");
    due(x.row(7, 0, MIN), SIZE, "row(7, 0, MIN)");
    due(x.drop(7), 40, "what is found changes nothing");
    x.row(1, 2, 3);
    x.set(1, 0, 9);
    due(x.row(1, 2, 3), 3, "in place of what is there");
    x.row(2, 2, 3);
    x.copy(1, 0, 2, 0, 3);
    tell(x, "w1;u0;l0,1;");
    due(x.word(2, 0, 1, 0), 0, "items are 0 at first");

    promise = "3 set";
    x = new WantedTypes();
    x.row(0, 0, 2);
    x.row(1, 1, 2);
    x.row(2, 2, 2);
    due(x.set(0, 0, 127), 127, "set(bytes, 127)");
    due(x.set(0, 0, 128), -128, "set(bytes, 128)");
    due(x.set(0, 0, 256), 0, "set(bytes, 256)");
    due(x.set(0, 1, -129), 127, "set(bytes, -129)");
    due(x.set(1, 0, 32767), 32767, "set(shorts, 32767)");
    due(x.set(1, 0, 32768), -32768, "set(shorts, 32768)");
    due(x.set(1, 1, 65536), 0, "set(shorts, 65536)");
    due(x.set(2, 0, MIN), MIN, "set(ints, MIN)");
    due(x.set(2, 1, MAX), MAX, "set(ints, MAX)");
    due(x.set(2, 2, 0), PLACE, "set(2, 2, 0)");
    due(x.set(2, -1, 0), PLACE, "set(2, -1, 0)");
    due(x.set(2, MIN, 0), PLACE, "set(2, MIN, 0)");
    due(x.set(3, -1, 0), NULL, "NULL comes ahead of PLACE");
    due(x.set(8, 0, 0), BAD, "set(8, 0, 0)");
    due(x.set(-1, 0, 0), BAD, "set(-1, 0, 0)");

    promise = "5 drop";
    due(x.drop(0), 2, "drop(0)");
    due(x.drop(0), NULL, "drop(0) again");
    due(x.set(0, 0, 0), NULL, "set of a dropped row");
    due(x.drop(8), BAD, "drop(8)");
    due(x.drop(-1), BAD, "drop(-1)");
    due(x.count(0), 2, "count(0)");
  }

  private static void copies() {
    promise = "4 copy";
    WantedTypes x = of("w1;u0;l0,1;c0,1,0;");
    x.row(0, 0, 5);
    x.row(1, 0, 3);
    x.row(2, 1, 5);
    due(x.copy(0, 0, 1, 0, 3), 3, "copy all that fits");
    due(x.copy(0, 5, 1, 3, 0), 0, "none, at the ends");
    due(x.copy(0, 6, 1, 3, 0), PLACE, "none, behind an end");
    due(x.copy(0, 5, 1, 4, 0), PLACE, "none, behind the other end");
    due(x.copy(0, 0, 1, 0, 4), PLACE, "beyond the end of b");
    due(x.copy(1, 1, 0, 0, 3), PLACE, "beyond the end of a");
    due(x.copy(0, -1, 1, 0, 1), PLACE, "i below 0");
    due(x.copy(0, 0, 1, -1, 1), PLACE, "j below 0");
    due(x.copy(0, 0, 1, 0, -1), PLACE, "n below 0");
    due(x.copy(0, MAX, 1, 0, MAX), PLACE, "a sum that runs over");
    due(x.copy(0, 1, 1, 0, MAX), PLACE, "a sum that runs over");
    due(x.copy(0, 0, 1, 0, MIN), PLACE, "n the least there is");
    due(x.copy(0, -1, 2, 0, 1), STORE, "STORE comes ahead of PLACE");
    due(x.copy(3, -1, 2, 0, 1), NULL, "NULL comes ahead of all");
    due(x.copy(0, 0, 3, 0, 1), NULL, "b is missing");
    due(x.copy(8, 0, 0, 0, 1), BAD, "no row a");
    due(x.copy(0, 0, -1, 0, 1), BAD, "no row b");
    due(x.copy(3, 0, 8, 0, 1), BAD, "BAD comes ahead of NULL");
    // a copy item by item, from the first on, would smear 1 over all of 1 0 9 0
    x.set(0, 0, 1);
    x.set(0, 1, 0);
    x.set(0, 2, 9);
    due(x.copy(0, 0, 0, 1, 4), 4, "upwards within itself");
    due(x.word(0, 1, 2, 1), 2, "1 0 stand at 1 and 2");
    due(x.copy(0, 1, 0, 0, 4), 4, "downwards within itself");
    due(x.word(0, 0, 2, 1), 2, "1 0 stand at 0 and 1");
    due(x.word(0, 2, 1, 1), NONE, "9 stands at 2");
  }

  private static void tapes() {
    promise = "6 feed";
    WantedTypes x = new WantedTypes();
    due(x.feed(0), 1, "feed(0)");
    due(x.feed(255), 2, "feed(255)");
    due(x.feed(-1), BAD, "feed(-1)");
    due(x.feed(256), BAD, "feed(256)");
    for (int n = 3; n <= 140; n++) due(x.feed('w'), n, "feed");
    due(x.feed('w'), FULL, "feed, when it is full");
    due(x.feed(256), BAD, "BAD comes ahead of FULL");
    due(x.count(5), 140, "count(5)");

    promise = "7 world";
    x = new WantedTypes();
    due(tell(x, FIVE), 5, "five members");
    due(x.count(5), 0, "the tape is empty then");
    x.hide(0, 1);
    due(tell(x, "w2;u0;u1;"), -1000109, "a fault");
    due(x.count(5), 0, "the tape is empty behind a fault");
    due(x.count(1), 4, "all stays");
    due(x.count(2), 5, "all stays");
    due(x.count(3), 1, "all stays");
    due(x.count(4), 1, "all stays");
    due(tell(x, "w08;u0;u0;u0;u00;u01;u0;u0;u7;l7,09;"), 1, "figures with a 0 ahead");
    due(x.type(7, 0), 7, "the type above 7");
    due(x.member(0, 1), 9, "cost");
    due(x.count(3), 0, "nothing is hidden");
    due(x.count(4), 0, "no act can be undone");
    due(tell(x, "w1;u0;" + "l0,1;".repeat(12)), 12, "twelve members");
  }

  private static void fault(String text, int number, int at) {
    WantedTypes x = new WantedTypes();
    due(tell(x, text), -1000100 - at, "world() of " + text);
    due(x.fault(), number, "fault() of " + text);
  }

  private static void faults() {
    promise = "7, 8 faults";
    fault("", 1, 0);
    fault("W1;", 1, 0);
    fault("w", 1, 1);
    fault("w;", 1, 1);
    fault("w 1;", 1, 1);
    fault("w123;", 1, 1);
    fault("w1234;", 1, 1);
    fault("w00;", 2, 1);
    fault("w9;", 2, 1);
    fault("w10;", 2, 1);
    fault("w8", 1, 2);
    fault("w1,", 1, 2);
    fault("w1;u0;;", 1, 6);
    fault("w1;u;", 1, 4);
    fault("w1;u000;", 1, 4);
    fault("w2;u0;u2;", 2, 7);
    fault("w2;u0;w1;", 1, 6);
    fault("w1;u0;u0;", 1, 6);
    fault("w1;u0;012", 1, 6);
    fault("w1;u0;x0,1;", 1, 6);
    fault("w1;u0;w0,1;", 1, 6);
    fault("w1;u0;l1,1;", 2, 7);
    fault("w1;u0;l,1;", 1, 7);
    fault("w1;u0;l100,1;", 1, 7);
    fault("w1;u0;l0;", 1, 8);
    fault("w1;u0;l0,0;", 2, 9);
    fault("w1;u0;l0,10;", 2, 9);
    fault("w1;u0;l0,111;", 1, 9);
    fault("w1;u0;l0,1", 1, 10);
    fault("w1;u0;l0,1,0;", 1, 10);
    fault("w1;u0;f0,1,0;", 1, 10);
    fault("w1;u0;o0,1,0;", 1, 10);
    fault("w1;u0;c0,1;", 1, 10);
    fault("w1;u0;m0,1;", 1, 10);
    fault("w1;u0;c0,1,;", 1, 11);
    fault("w1;u0;c0,1,1;", 2, 11);
    fault("w1;u0;c0,1,0,1;", 2, 13);
    fault("w1;u0;c0,1,0,0,0;", 1, 14);
    fault("w1;u0;c0,1,0", 1, 12);
    fault("w1;u0;c0,1,0u", 1, 12);
    fault("w1;u0;l0,1;;", 1, 11);
    fault("w1;u0;l0,1;l", 1, 12);
    String twelve = "w1;u0;" + "l0,1;".repeat(12);
    fault(twelve + "l", 3, 66);
    fault(twelve + "l0,1;", 3, 66);
    fault(twelve + "x", 1, 66);
    fault(twelve + "7", 1, 66);

    promise = "8 fault";
    WantedTypes x = of("w1;u0;l0,1;");
    due(x.fault(), 0, "before one");
    tell(x, "w9");
    due(x.fault(), 2, "of a number");
    tell(x, "w1;u0;l0,1;");
    due(x.fault(), 2, "the latest one still");
  }

  private static void hides() {
    promise = "9 hide";
    WantedTypes x = of(FIVE);
    due(x.hide(1, 1), 2, "hide(1, 1)");
    due(x.hide(4, 1), 18, "hide(4, 1)");
    due(x.hide(4, 1), STATE, "hide(4, 1) again");
    due(x.hide(0, 0), STATE, "hide(0, 0)");
    due(x.hide(1, 0), 16, "hide(1, 0)");
    due(x.hide(5, 1), BAD, "hide(5, 1)");
    due(x.hide(-1, 1), BAD, "hide(-1, 1)");
    due(x.hide(0, 2), BAD, "hide(0, 2)");
    due(x.hide(0, -1), BAD, "hide(0, -1)");
    due(x.count(4), 3, "what is refused is no act");
  }

  private static void costs() {
    promise = "10 cost";
    WantedTypes x = of(FIVE);
    due(x.cost(0, 9), 2, "cost(0, 9)");
    due(x.cost(0, 1), 9, "cost(0, 1)");
    due(x.cheapest(1), 1, "cheapest(1)");
    due(x.cost(0, 0), BAD, "cost(0, 0)");
    due(x.cost(0, 10), BAD, "cost(0, 10)");
    due(x.cost(5, 1), BAD, "cost(5, 1)");
    due(x.cost(-1, 1), BAD, "cost(-1, 1)");
    due(x.count(4), 2, "count(4)");
  }

  private static void aboves() {
    promise = "11 above";
    WantedTypes x = of(FIVE);
    due(x.above(3, 2), 1, "above(3, 2)");
    due(x.type(3, 1), 12, "type(3, 1)");
    due(x.above(2, 0), 2, "above(2, 0)");
    due(x.type(3, 1), 13, "what is above 2 is above 3");
    due(x.above(3, 3), 2, "above(3, 3)");
    due(x.type(3, 1), 8, "below none");
    due(x.above(0, 0), 0, "above(0, 0)");
    due(x.above(3, 4), BAD, "above(3, 4)");
    due(x.above(1, 2), BAD, "above(1, 2)");
    due(x.above(3, -1), BAD, "above(3, -1)");
    due(x.above(4, 0), BAD, "above(4, 0)");
    due(x.above(-1, -1), BAD, "above(-1, -1)");
    due(x.count(4), 4, "count(4)");
  }

  private static void undos() {
    promise = "12 undo";
    WantedTypes x = of(FIVE);
    int many = x.many(0, 10);
    x.hide(3, 1);
    x.cost(0, 1);
    x.above(3, 3);
    x.hide(3, 0);
    due(x.undo(), 3, "undo()");
    due(x.count(3), 8, "hidden again");
    due(x.undo(), 2, "undo()");
    due(x.type(3, 0), 1, "type(3, 0)");
    due(x.type(3, 1), 11, "type(3, 1)");
    due(x.undo(), 1, "undo()");
    due(x.member(0, 1), 2, "member(0, 1)");
    due(x.undo(), 0, "undo()");
    due(x.count(3), 0, "count(3)");
    due(x.many(0, 10), many, "many(0, 10)");
    due(x.undo(), STATE, "undo()");
    for (int k = 0; k < 30; k++) x.cost(0, k % 9 + 1);
    due(x.count(4), 24, "24 at most are kept");
    for (int k = 23; k >= 0; k--) due(x.undo(), k, "undo()");
    due(x.member(0, 1), 6, "the six oldest are forgotten");
    due(x.undo(), STATE, "undo()");
    x.cost(0, 6);
    due(x.undo(), 0, "a cost told anew is an act, too");
    manyActs();
  }

  /** 32 acts of all sorts in turn: 24 are undone, back to what stood behind the first 8. */
  private static void manyActs() {
    WantedTypes x = of(FIVE);
    for (int k = 0; k < 8; k++) {
      x.hide(k % 5, x.member(k % 5, 6) == 1 ? 0 : 1);
      x.cost(1 + k % 4, 9 - k);
      x.above(3, k % 4);
      x.above(2, k % 3);
      if (k == 1) x.image(0);
    }
    for (int k = 23; k >= 0; k--) due(x.undo(), k, "undo() of many");
    int[][] was = new int[5][3];
    for (int m = 0; m < 5; m++) was[m] = new int[] {x.member(m, 1), x.member(m, 6), x.type(m % 4, 0)};
    x.restore(0);
    for (int m = 0; m < 5; m++) {
      due(was[m][0], x.member(m, 1), "the cost of " + m);
      due(was[m][1], x.member(m, 6), "whether hidden: " + m);
      due(was[m][2], x.type(m % 4, 0), "the type above " + m % 4);
    }
  }

  private static void members() {
    promise = "13 member";
    WantedTypes x = of("w4;u0;u0;u2;u1;l1,9;f3,9;o0,9;c2,9,1;m0,9,2;m1,9,3,0;");
    int[] prices = {9, 11, 27, 9, 10, 11};
    for (int m = 0; m < 6; m++) due(x.member(m, 2), prices[m], "member(" + m + ", 2)");
    int[] maker = {1, 9, 11, 2, 3, 0, 0};
    for (int w = 0; w < 7; w++) due(x.member(5, w), maker[w], "member(5, " + w + ")");
    due(x.member(3, 4), 1, "member(3, 4)");
    due(x.member(3, 5), NONE, "member(3, 5)");
    due(x.member(0, 4), NONE, "member(0, 4)");
    x.hide(5, 1);
    due(x.member(5, 6), 1, "member(5, 6)");
    due(x.member(0, -1), BAD, "member(0, -1)");
    due(x.member(0, 7), BAD, "member(0, 7)");
    due(x.member(6, 0), BAD, "member(6, 0)");
    due(x.member(-1, 0), BAD, "member(-1, 0)");
  }

  private static void types() {
    promise = "14 type";
    WantedTypes x = of("w5;u0;u0;u1;u2;u4;l3,1;l2,1;l0,1;l4,1;");
    due(x.type(3, 0), 2, "type(3, 0)");
    due(x.type(3, 1), 15, "type(3, 1)");
    due(x.type(1, 2), 14, "type(1, 2)");
    due(x.type(1, 3), 3, "type(1, 3)");
    due(x.type(4, 0), 4, "type(4, 0)");
    due(x.type(4, 2), 16, "type(4, 2)");
    x.hide(0, 1);
    due(x.type(0, 3), 7, "hidden ones, too");
    due(x.type(5, 0), BAD, "type(5, 0)");
    due(x.type(-1, 0), BAD, "type(-1, 0)");
    due(x.type(0, 4), BAD, "type(0, 4)");
    due(x.type(0, -1), BAD, "type(0, -1)");
  }

  private static void manies() {
    promise = "15 many";
    // Binary trees of one local and one call: those with k calls have price 2k + 1, and are Catalan's numbers.
    WantedTypes x = of("w1;u0;l0,1;c0,1,0,0;");
    int[] catalan = {1, 1, 2, 5, 14, 42, 132, 429, 1430, 4862, 16796, 58786};
    for (int p = 1; p <= 24; p++) due(x.many(0, p), p % 2 == 1 ? catalan[p / 2] : 0, "many(0, " + p + ")");
    x.hide(1, 1);
    due(x.many(0, 3), 0, "hidden ones are in no expression");
    due(x.many(0, 0), BAD, "many(0, 0)");
    due(x.many(0, 25), BAD, "many(0, 25)");
    due(x.many(1, 1), BAD, "many(1, 1)");
    due(x.many(-1, 1), BAD, "many(-1, 1)");
    x = of("w1;u0;" + "l0,1;".repeat(6) + "c0,1,0,0;".repeat(6));
    due(x.many(0, 7), 5 * 6 * 6 * 6 * 6 * 6 * 6 * 6, "many(0, 7)");
    due(x.many(0, 11), 999999999, "many(0, 11)");
    due(x.many(0, 23), 999999999, "many(0, 23)");
    due(x.many(0, 22), 0, "many(0, 22)");
    // a chain of calls over ten locals: 10 ^ 8 * 10 = 10 ^ 9 is one too many, 9 ^ 9 is not
    x = of("w1;u0;" + "l0,1;" + "c0,1,0;".repeat(10));
    due(x.many(0, 9), 100000000, "many(0, 9)");
    due(x.many(0, 10), 999999999, "many(0, 10)");
    x = of("w1;u0;" + "l0,1;" + "c0,1,0;".repeat(9));
    due(x.many(0, 10), 387420489, "many(0, 10)");
    x = of("w2;u0;u0;l1,1;");
    due(x.many(0, 1), 1, "one of a type below is of the type above, once");
    due(x.many(1, 1), 1, "many(1, 1)");
    x = of("w2;u0;u0;l0,1;");
    due(x.many(1, 1), 0, "one of a type above is not of the type below");
  }

  private static void lists() {
    promise = "16 cheapest";
    WantedTypes x = of("w3;u0;u1;u2;l0,5;l0,3;c1,9,0;c2,6,1,1;");
    due(x.cheapest(0), 3, "cheapest(0)");
    due(x.cheapest(1), 12, "cheapest(1)");
    due(x.cheapest(2), NONE, "30 is above 24");
    x.cost(2, 6);
    due(x.cheapest(2), 24, "24 is found");
    due(x.cheapest(3), BAD, "cheapest(3)");
    due(x.cheapest(-1), BAD, "cheapest(-1)");

    promise = "17 listed";
    x = of("w1;u0;c0,1,0,0;l0,2;l0,1;");
    // by price, then by codes, though the first argument's price falls and rises among one price
    int[][] list = {{2}, {1}, {0, 2, 2}, {0, 1, 2}, {0, 2, 1}, {0, 0, 2, 2, 2}, {0, 1, 1}, {0, 2, 0, 2, 2}};
    int[] prices = {1, 2, 3, 4, 4, 5, 5, 5};
    for (int k = 0; k < list.length; k++) {
      due(x.listed(0, k, -1), prices[k], "listed(0, " + k + ", -1)");
      for (int j = 0; j < list[k].length; j++) due(x.listed(0, k, j), list[k][j], "listed(0, " + k + ", " + j + ")");
      due(x.listed(0, k, list[k].length), NONE, "listed(0, " + k + "), not so many");
    }
    due(x.listed(0, 0, MAX), NONE, "listed(0, 0, MAX)");
    due(x.listed(0, 0, -2), BAD, "listed(0, 0, -2)");
    due(x.listed(0, -1, 0), BAD, "listed(0, -1, 0)");
    due(x.listed(0, 999999999, 0), BAD, "listed(0, 999999999, 0)");
    due(x.listed(1, 0, 0), BAD, "listed(1, 0, 0)");
    due(x.listed(0, 999999998, 0), NONE, "there is none at that place");
    x = of("w1;u0;l0,9;");
    due(x.listed(0, 1, -1), NONE, "listed(0, 1, -1)");
    due(x.listed(0, 1, 0), NONE, "listed(0, 1, 0)");
    x = of("w1;u0;" + "l0,1;".repeat(6) + "c0,1,0,0;".repeat(6));
    due(x.listed(0, 999999998, -1), 11, "listed(0, 999999998, -1)");
    due(x.listed(0, 999999998, 11), NONE, "eleven members");
  }

  private static void words() {
    promise = "18 word";
    WantedTypes x = of("w2;u0;u0;l0,1;o1,9;c1,1,0,1;");
    code(x, 0, 2, 1, 2, 0, 1);
    due(x.word(0, 0, 5, 0), 1, "the type that its first member gives");
    due(x.word(0, 0, 5, 1), 57, "a price above 24");
    due(x.word(0, 2, 3, 1), 29, "from 2 on");
    due(x.word(0, 0, 4, 0), NONE, "too few");
    due(x.word(0, 1, 4, 0), NONE, "too many");
    x.set(0, 4, 0);
    due(x.word(0, 0, 5, 0), NONE, "an argument of another type");
    x.set(0, 4, 1);
    x.set(0, 3, 3);
    due(x.word(0, 0, 5, 0), NONE, "no such member");
    x.set(0, 3, -1);
    due(x.word(0, 0, 5, 0), NONE, "no member below 0");
    x.set(0, 3, 0);
    x.hide(0, 1);
    due(x.word(0, 0, 5, 0), NONE, "one of it is hidden");
    due(x.word(0, 0, 0, 0), BAD, "n = 0");
    due(x.word(0, 0, 25, 0), BAD, "n = 25");
    due(x.word(0, 0, 1, 2), BAD, "what = 2");
    due(x.word(0, 0, 1, -1), BAD, "what = -1");
    due(x.word(8, 0, 1, 0), BAD, "row 8");
    due(x.word(1, 0, 1, 0), NULL, "a row that is missing");
    due(x.word(0, 5, 1, 0), PLACE, "from 5 on");
    due(x.word(0, -1, 1, 0), PLACE, "from -1 on");
    due(x.word(0, MAX, 24, 0), PLACE, "from MAX on");
    due(new WantedTypes().word(0, 0, 1, 0), STATE, "no world");
    due(new WantedTypes().word(0, 0, 0, 0), BAD, "BAD comes ahead of STATE");
    x = of("w1;u0;c0,1,0;c0,1,0,0;l0,1;");
    x.row(0, 2, 24);
    x.set(0, 23, 2);
    due(x.word(0, 0, 24, 1), 24, "24 members");
    for (int i = 0; i < 24; i++) x.set(0, i, 1);
    due(x.word(0, 0, 24, 1), NONE, "24 calls that lack all");
  }

  private static void places() {
    promise = "19 place";
    WantedTypes x;
    for (int k = 0; k < 300; k += 7) {
      x = of("w1;u0;c0,1,0,0;l0,2;l0,1;");
      int n = 0;
      x.row(0, 1, 24);
      while (n < 24 && x.listed(0, k, n) != NONE) {
        x.set(0, n, x.listed(0, k, n));
        n++;
      }
      due(x.place(0, 0, n), k, "place of " + k);
    }
    x = of("w2;u0;u0;l0,1;o1,8;o0,9;c1,1,0,1;");
    code(x, 0, 1, 1);
    due(x.place(1, 0, 1), 0, "place(1, 0, 1)");
    due(x.place(0, 0, 1), 1, "of the type above, too");
    due(x.place(0, 0, 2), NONE, "not whole");
    x.set(0, 0, 0);
    due(x.place(1, 0, 1), NONE, "not of that type");
    x.set(0, 0, 2);
    due(x.place(0, 0, 1), NONE, "a price above 24");
    due(x.word(0, 0, 1, 1), 27, "though it is whole");
    due(x.place(2, 0, 1), BAD, "type 2");
    due(x.place(-1, 0, 1), BAD, "type -1");
    due(x.place(0, 8, 1), BAD, "row 8");
    due(x.place(0, 0, 0), BAD, "n = 0");
    due(x.place(0, 0, 25), BAD, "n = 25");
    due(x.place(0, 1, 1), NULL, "a row that is missing");
    due(x.place(0, 0, 3), PLACE, "more than there are");
    x = of("w1;u0;" + "l0,1;" + "c0,1,0;".repeat(10));
    x.row(0, 0, 10);
    for (int i = 0; i < 9; i++) x.set(0, i, 10);
    // 1 + 10 + .. + 10 ^ 8 are cheaper: 111111111; of price 10, all but the greatest stand ahead
    due(x.place(0, 0, 10), NONE, "1111111110 is too far behind");
    // a ninth of all below 999999998: 888888887 as the codes' figures from 1 on is 999999998 less 111111111
    for (int i = 0; i < 8; i++) x.set(0, i, 9);
    x.set(0, 8, 8);
    due(x.place(0, 0, 10), 999999998, "the last place there is");
    x.set(0, 8, 9);
    due(x.place(0, 0, 10), NONE, "the first place beyond");
  }

  private static void hads() {
    promise = "20 had";
    WantedTypes x = of("w4;u0;u0;u2;u3;l1,9;c2,9,2;c3,9,0,3;c3,9,1,1;");
    due(x.had(), 11, "2 is needed for 2 alone; 3 costs 27");
    due(x.cheapest(3), NONE, "of any price, also above 24");
    x.hide(0, 1);
    due(x.had(), 0, "none");
    due(new WantedTypes().had(), STATE, "no world");
  }

  private static void neededs() {
    promise = "21 needed";
    WantedTypes x = of("w4;u0;u0;u2;u3;l1,9;c2,9,2;c3,9,0,3;c3,9,1,1;");
    due(x.needed(0), 1, "needed(0)");
    due(x.needed(2), 0, "there is none as it is");
    due(x.needed(3), 9, "needed(3), at 27");
    tell(x, "w2;u0;u1;l0,1;l0,1;c1,1,0;");
    due(x.needed(0), 0, "each alone is not needed");
    due(x.needed(1), 4, "needed(1)");
    x.hide(0, 1);
    due(x.needed(1), 6, "a hidden one is not needed");
    due(x.needed(2), BAD, "needed(2)");
    due(x.needed(-1), BAD, "needed(-1)");
  }

  private static void withouts() {
    promise = "22 without";
    WantedTypes x = of("w2;u0;u1;l0,1;l0,4;c1,9,0,0;c1,9,1;");
    due(x.without(0, 0), 4, "without(0, 0)");
    due(x.without(0, 1), 1, "without(0, 1)");
    due(x.without(1, 0), 17, "without(1, 0)");
    due(x.without(1, 2), NONE, "without(1, 2)");
    x.cost(1, 8);
    due(x.without(1, 0), NONE, "25 is above 24");
    x.hide(0, 1);
    due(x.without(0, 0), 8, "of one that is hidden, as it is");
    due(x.without(0, 1), NONE, "hidden ones stay so");
    due(x.count(3), 1, "nothing is hidden by asking");
    due(x.without(2, 0), BAD, "without(2, 0)");
    due(x.without(0, 4), BAD, "without(0, 4)");
    due(x.without(-1, 0), BAD, "without(-1, 0)");
    due(x.without(0, -1), BAD, "without(0, -1)");
  }

  private static void shares() {
    promise = "23 share";
    WantedTypes x = of("w1;u0;l0,1;o0,1;f0,1;l0,5;m0,9,0;");
    x.hide(4, 1);
    int[] ten = {1, 3, 2, 4};
    for (int m = 0; m < 4; m++) due(x.share(m, 10), ten[m], "share(" + m + ", 10)");
    due(x.share(4, 10), 0, "of one that is hidden");
    x.hide(0, 1);
    int[] four = {0, 2, 1, 1};
    for (int m = 0; m < 4; m++) due(x.share(m, 4), four[m], "share(" + m + ", 4)");
    due(x.share(1, 0), 0, "share(1, 0)");
    due(x.share(1, 999), 273, "share(1, 999)");
    due(x.share(3, 999), 454, "share(3, 999)");
    due(x.share(1, 1000), BAD, "share(1, 1000)");
    due(x.share(1, -1), BAD, "share(1, -1)");
    due(x.share(5, 1), BAD, "share(5, 1)");
    due(x.share(-1, 1), BAD, "share(-1, 1)");
    for (int m = 1; m < 4; m++) x.hide(m, 1);
    due(x.share(0, 5), 0, "all are hidden");
  }

  private static void draws() {
    promise = "24 drawn";
    WantedTypes x = of("w2;u0;u1;c0,1,0,0;l0,2;l0,1;");
    int all = 0;
    for (int p = 1; p <= 24; p++) all += x.many(0, p);
    long at = 12345;
    int prices = 0, members = 0;
    for (int n = 1; n <= 60; n++) {
      x = of("w2;u0;u1;c0,1,0,0;l0,2;l0,1;");
      at = at * 16807 % 2147483647;
      prices += x.listed(0, (int) (at % all), -1);
      for (int j = 0; x.listed(0, (int) (at % all), j) != NONE; j++) members++;
      due(x.drawn(0, n, 12345, 0), prices, "drawn(0, " + n + ", 12345, 0)");
      due(x.drawn(0, n, 12345, 1), members, "drawn(0, " + n + ", 12345, 1)");
    }
    due(x.drawn(1, 1, 1, 0), STATE, "the list is empty");
    due(x.drawn(1, 0, 1, 0), BAD, "BAD comes ahead of STATE");
    due(x.drawn(0, 61, 1, 0), BAD, "n = 61");
    due(x.drawn(0, 1, 0, 0), BAD, "seed 0");
    due(x.drawn(0, 1, 1000000, 0), BAD, "seed 1000000");
    due(x.drawn(0, 1, 1, 2), BAD, "what = 2");
    due(x.drawn(0, 1, 1, -1), BAD, "what = -1");
    due(x.drawn(2, 1, 1, 0), BAD, "type 2");
    x = of("w1;u0;" + "l0,1;".repeat(6) + "c0,1,0,0;".repeat(6));
    long first = 999999L * 16807 % 2147483647 % 999999999;
    due(x.drawn(0, 1, 999999, 0), x.listed(0, (int) first, -1), "more than 999999999");
  }

  private static void images() {
    promise = "25 image, 26 restore";
    WantedTypes x = new WantedTypes();
    due(x.image(0), STATE, "no world");
    due(x.image(-1), BAD, "image(-1)");
    due(x.restore(1), STATE, "none was kept");
    tell(x, FIVE);
    x.hide(2, 1);
    x.cost(0, 7);
    x.above(3, 0);
    due(x.image(1), 1, "image(1)");
    due(x.count(4), 3, "an image is no act");
    due(x.restore(0), STATE, "restore(0)");
    due(x.restore(2), BAD, "restore(2)");
    x.cost(0, 1);
    x.hide(2, 0);
    x.above(3, 3);
    due(x.count(4), 6, "a refused restore changes nothing");
    tell(x, "w1;u0;c0,1,0;");
    due(x.image(0), 1, "image(0)");
    due(x.restore(1), 1, "restore(1)");
    due(x.count(4), 0, "no act can be undone then");
    due(x.undo(), STATE, "undo()");
    due(x.count(1), 4, "count(1)");
    due(x.count(2), 5, "count(2)");
    due(x.count(3), 4, "count(3)");
    due(x.member(0, 1), 7, "member(0, 1)");
    due(x.type(3, 1), 9, "type(3, 1)");
    due(x.cheapest(0), 3, "cheapest(0)");
    due(x.many(0, 7), 1, "many(0, 7)");
    x.cost(0, 2);
    due(x.restore(1), 1, "restore(1)");
    due(x.member(0, 1), 7, "what comes behind does not change an image");
    due(x.restore(0), 1, "restore(0)");
    due(x.many(0, 7), 0, "many(0, 7)");
    due(x.image(1), 1, "another image in its place");
    tell(x, FIVE);
    due(x.restore(1), 1, "restore(1)");
    due(x.count(2), 1, "count(2)");
  }

  private static void kinds() {
    promise = "27 kind, 28 as";
    WantedTypes x = of(FIVE);
    int[] kinds = {0b000011, 0b000111, 0b001011, 0b010001, 0b110001};
    for (int m = 0; m < 5; m++) {
      due(x.kind(m), m + 1, "kind(" + m + ")");
      for (int k = 0; k < 6; k++) {
        boolean is = (kinds[m] >> k & 1) == 1;
        due(x.as(m, k), is ? m : KIND, "as(" + m + ", " + k + ")");
        due(x.status(), is ? 0 : 3, "status()");
      }
    }
    due(x.kind(5), BAD, "kind(5)");
    due(x.kind(-1), BAD, "kind(-1)");
    due(x.as(5, 0), BAD, "as(5, 0)");
    due(x.as(0, 6), BAD, "as(0, 6)");
    due(x.as(0, -1), BAD, "as(0, -1)");
  }

  private static void ask(WantedTypes x, int member, int what, int answer, int... trace) {
    due(x.ask(member, what), answer, "ask(" + member + ", " + what + ")");
    for (int i = 0; i < trace.length; i++) due(x.trace(i), trace[i], "trace(" + i + ")");
    due(x.trace(trace.length), NONE, "trace, at its end");
  }

  private static void asks() {
    promise = "29 ask, 30 trace";
    WantedTypes x = of("w4;u0;u0;u2;u1;m0,6,2,0;l1,2;f3,4;o2,5;c2,3,1;");
    ask(x, 1, 0, 2 + 1 + 1, 11, 10, 21, 20);
    ask(x, 1, 1, 1 + 1, 21, 20);
    ask(x, 2, 0, -(4 + 2 * (2 + 3)), 12, 11, 10, 24, 21, 20);
    ask(x, 2, 1, 2 * (2 + 3), 24, 21, 20);
    ask(x, 3, 0, 5 + 3 + 2 - 1000, 11, 10, 22, 21, 20);
    ask(x, 3, 1, 3 + 2 - 1000, 22, 21, 20);
    ask(x, 4, 0, 3 - 100, 13, 10);
    ask(x, 4, 1, 4 + 97, 23, 20, 13, 10);
    ask(x, 0, 0, 2 * (6 - 100), 14, 13, 10);
    ask(x, 0, 1, 188, 23, 20, 14, 13, 10);
    due(x.ask(5, 0), BAD, "ask(5, 0)");
    due(x.ask(-1, 0), BAD, "ask(-1, 0)");
    due(x.ask(0, 2), BAD, "ask(0, 2)");
    due(x.ask(0, -1), BAD, "ask(0, -1)");
    due(x.trace(4), 10, "what is refused leaves the trace");
    due(x.trace(-1), NONE, "trace(-1)");
    due(x.trace(MIN), NONE, "trace(MIN)");
    due(x.trace(16), NONE, "trace(16)");
    due(x.trace(MAX), NONE, "trace(MAX)");
    x.hide(1, 1);
    x.cost(1, 9);
    ask(x, 1, 0, 11, 11, 10, 21, 20);
  }

  private static void counts() {
    promise = "31 count";
    WantedTypes x = of(FIVE);
    x.row(3, 0, 0);
    x.row(6, 0, 1);
    x.hide(4, 1);
    x.hide(1, 1);
    x.feed('w');
    int[] all = {2, 4, 5, 18, 2, 1};
    for (int what = 0; what < 6; what++) due(x.count(what), all[what], "count(" + what + ")");
    due(x.count(6), BAD, "count(6)");
    due(x.count(-1), BAD, "count(-1)");
  }

  private static void status(WantedTypes x, int want, String behind) {
    due(x.status(), want, "status() behind " + behind);
  }

  private static void statuses() {
    promise = "32 status";
    WantedTypes x = of(FIVE);
    x.row(0, 0, -1);
    status(x, 4, "SIZE");
    x.row(8, 0, 0);
    status(x, 4, "BAD, which does not count");
    x.had();
    x.hide(0, 1);
    x.hide(0, 1);
    status(x, 4, "calls without a row");
    x.row(0, 0, 2);
    status(x, 0, "a row");
    x.set(0, 2, 0);
    status(x, 2, "PLACE");
    x.set(0, 0, 1);
    status(x, 0, "an item");
    x.drop(1);
    status(x, 1, "NULL");
    x.drop(0);
    status(x, 0, "a drop");
    x.row(0, 0, 2);
    x.row(1, 1, 2);
    x.copy(0, 0, 1, 0, 1);
    status(x, 5, "STORE");
    x.copy(0, 0, 0, 1, 1);
    status(x, 0, "a copy");
    x.as(0, 5);
    status(x, 3, "KIND");
    x.as(0, 6);
    status(x, 3, "BAD, which does not count");
    x.as(0, 1);
    status(x, 0, "as");
    x.word(0, 2, 1, 0);
    status(x, 2, "a word at no place");
    x.word(0, 0, 2, 0);
    status(x, 0, "a word that is not whole");
    x.place(0, 2, 1);
    status(x, 1, "a word of a row that is missing");
    x.place(9, 2, 1);
    status(x, 1, "BAD, which does not count");
    x.place(0, 0, 2);
    status(x, 0, "a place of none");
    x = new WantedTypes();
    x.drop(0);
    x.word(0, 0, 1, 0);
    status(x, 1, "STATE, which does not count");
  }
}
