/** Parts 2 and 3, and promises 15 to 24: prices, lists, words, what can be had, shares, draws at their bounds. */
public final class ListBoundaryTest {
  private static final int NONE = Held.NONE, BAD = Held.BAD;
  private static final int MOST = 999999999;

  /**
   * Type 0 has just 999999999 expressions while member 11 is hidden, 1000000000 while it is shown. Of type 1 there are
   * 10 ^ n of price 6 + 2n: one more by each of nine pairs of a call and a local, and by the call of cost 2. Of type 0
   * are nine for each of these up to n = 8, which has price 24 then.
   */
  private static final String BILLION = "w3;u0;u1;u2;l2,1;l2,1;l2,1;l1,6;c1,1,1,2;c1,1,1,2;c1,1,1,2;c1,2,1;"
      + "c0,1,1,2;c0,1,1,2;c0,1,1,2;l0,9;";

  public static void main(String[] args) {
    prices();
    foundPrices();
    manyBounds();
    manyMost();
    cheapest();
    listedBounds();
    listedEnds();
    listOrder();
    lastPlaces();
    wordBounds();
    wordPlaces();
    wholeWords();
    placeBounds();
    placeOfNone();
    had();
    needed();
    without();
    takenBeforeItIsTold();
    shareBounds();
    shareOver();
    drawnBounds();
    drawnSizes();
    Held.end();
  }

  private static WantedTypes five() {
    return Held.of(Held.FIVE);
  }

  private static WantedTypes fiveWithRow() {
    WantedTypes x = five();
    for (int r = 0; r < 8; r++) x.row(r, 0, 40);
    return x;
  }

  private static WantedTypes billion(boolean shown) {
    WantedTypes x = Held.of(BILLION);
    if (!shown) x.hide(11, 1);
    return x;
  }

  /** A local of a price from 1 to 25: l, f and o reach 9, 11 and 27; one of 24 and one of a call make 25. */
  private static WantedTypes chain(int local, int call) {
    return Held.of("w2;u0;u1;o1," + local + ";c0," + call + ",1;");
  }

  private static void prices() {
    Held.sentence("PRICES of all MEMBERS of its CODE (each as often as it is there), together");
    WantedTypes x = Held.of("w1;u0;l0,1;c0,2,0,0;m0,1,0,0;");
    Held.write(x, 0, 1, 2, 0, 0, 1, 0, 0);
    Held.due(x, 2 + 3 + 1 + 1 + 2 + 1 + 1, "word", 0, 0, 7, 1);
    Held.due(x, 1, "word", 0, 2, 1, 1);
  }

  private static void foundPrices() {
    Held.sentence("EXPRESSIONS of PRICE 1 to 24 alone are found.");
    WantedTypes x = Held.of("w1;u0;l0,1;");
    Held.due(x, 1, "many", 0, 1);
    Held.due(x, 1, "cheapest", 0);
    Held.due(x, NONE, "listed", 0, 1, -1);
    x = Held.of("w1;u0;o0,8;");
    found(x, 24);
    x = Held.of("w1;u0;o0,9;");
    notFound(x);
    for (int call = 1; call <= 9; call++) {
      int price = 18 + call;
      if (price <= 24) found(chain(6, call), price);
      else notFound(chain(6, call));
    }
    found(chain(7, 3), 24);
    notFound(chain(7, 4));
  }

  private static void found(WantedTypes x, int price) {
    for (int p = 1; p <= 24; p++) Held.due(x, p == price ? 1 : 0, "many", 0, p);
    Held.due(x, price, "cheapest", 0);
    Held.due(x, price, "listed", 0, 0, -1);
    Held.due(x, NONE, "listed", 0, 1, -1);
    Held.due(x, price, "drawn", 0, 1, 1, 0);
    Held.due(x, 60 * price, "drawn", 0, 60, 999999, 0);
    asWord(x, price, 0);
  }

  private static void notFound(WantedTypes x) {
    for (int p = 1; p <= 24; p++) Held.due(x, 0, "many", 0, p);
    Held.due(x, NONE, "cheapest", 0);
    Held.due(x, NONE, "listed", 0, 0, -1);
    Held.due(x, NONE, "listed", 0, 0, 0);
    Held.due(x, Held.STATE, "drawn", 0, 1, 1, 0);
    Held.due(x, x.count(1) == 1 ? 1 : 3, "had");
    asWord(x, x.member(0, 2) + (x.count(2) == 1 ? 0 : x.member(1, 2)), NONE);
  }

  /** The one expression of type 0, of one or of two members, is whole, whatever its price; listed it may be not. */
  private static void asWord(WantedTypes x, int price, int place) {
    if (x.count(2) == 1) Held.write(x, 0, 0);
    else Held.write(x, 0, 1, 0);
    Held.due(x, price, "word", 0, 0, x.count(2), 1);
    Held.due(x, place, "place", 0, 0, x.count(2));
  }

  private static void manyBounds() {
    Held.sentence("How many EXPRESSIONS of a TYPE have a PRICE (1 to 24); 999999999, if there are more. BAD.");
    Held.bounds(ListBoundaryTest::five, 0, 0, 3, "many", 0, 1);
    Held.bounds(ListBoundaryTest::five, 1, 1, 24, "many", 0, 1);
  }

  private static void manyMost() {
    Held.sentence("999999999, if there are more");
    WantedTypes x = Held.of("w1;u0;l0,1;" + "c0,1,0;".repeat(10));
    Held.due(x, 100000000, "many", 0, 9);
    Held.due(x, MOST, "many", 0, 10);
    for (int p = 11; p <= 24; p++) Held.due(x, MOST, "many", 0, p);
    // with a call of cost 2 from type 0 to itself in place of its local, all of a price add up at the next but one
    x = Held.of(BILLION.substring(0, BILLION.length() - 5) + "c0,2,0;");
    Held.due(x, 99999999, "many", 0, 22);
    Held.due(x, MOST, "many", 0, 24);
    Held.due(x, 100000000, "many", 1, 22);
    Held.due(x, MOST, "many", 1, 24);
    x.hide(10, 1);
    Held.due(x, 666666666, "many", 0, 24);
    Held.due(x, 0, "many", 0, 23);
  }

  private static void cheapest() {
    Held.sentence("PRICE of the first of THE LIST of a TYPE; NONE. BAD.");
    Held.bounds(ListBoundaryTest::five, 0, 0, 3, "cheapest", 0);
    WantedTypes x = Held.of("w3;u0;u1;u2;l1,1;o1,8;o2,9;");
    Held.due(x, NONE, "cheapest", 0);
    Held.due(x, 1, "cheapest", 1);
    Held.due(x, NONE, "cheapest", 2);
    x.hide(0, 1);
    Held.due(x, 24, "cheapest", 1);
    x.hide(1, 1);
    Held.due(x, NONE, "cheapest", 1);
    // a call that takes two, with both of them: 12 and 11 and its own
    x = Held.of("w3;u0;u1;u2;o1,4;f2,9;c0,1,1,2;m0,1,2,2;");
    Held.due(x, 24, "cheapest", 0);
    Held.due(x, NONE, "without", 0, 2);
    x.cost(2, 2);
    Held.due(x, NONE, "cheapest", 0);
    x.cost(1, 8);
    Held.due(x, 23, "without", 0, 2);
    Held.due(x, 23, "cheapest", 0);
    Held.due(x, 24, "without", 0, 3);
  }

  private static void listedBounds() {
    Held.sentence("NONE: there is none at that place. BAD: place below 0, above 999999998, j below -1, too.");
    Held.bounds(ListBoundaryTest::five, 0, 0, 3, "listed", 0, 0, 0);
    Held.bounds(ListBoundaryTest::five, 1, 0, 999999998, "listed", 0, 0, 0);
    Held.bounds(() -> billion(true), 1, 0, 999999998, "listed", 0, 0, -1);
    Held.beyond(ListBoundaryTest::five, 2, -2, BAD, "listed", 0, 0, 0);
    Held.answered(five(), "listed", 0, 0, -1);
    Held.due(five(), NONE, "listed", 0, 0, Held.MAX);
    // where there is nothing, a wrong number is BAD still
    WantedTypes x = Held.of("w1;u0;c0,1,0;");
    Held.due(x, NONE, "listed", 0, 0, -1);
    Held.due(x, NONE, "listed", 0, 999999998, 0);
    Held.due(x, BAD, "listed", 0, 999999999, 0);
    Held.due(x, BAD, "listed", 0, -1, -1);
    Held.due(x, BAD, "listed", 0, 0, -2);
    Held.due(x, BAD, "listed", 1, 0, -1);
  }

  private static void listedEnds() {
    Held.sentence("the j-th MEMBER of its CODE (0 on; NONE: not so many)");
    WantedTypes x = Held.of("w1;u0;l0,1;c0,1,0;");
    for (int place = 0; place < 24; place++) {
      Held.due(x, place + 1, "listed", 0, place, -1);
      Held.due(x, place == 0 ? 0 : 1, "listed", 0, place, 0);
      Held.due(x, 0, "listed", 0, place, place);
      Held.due(x, NONE, "listed", 0, place, place + 1);
      Held.due(x, NONE, "listed", 0, place, 24);
    }
    Held.due(x, 1, "listed", 0, 23, 22);
    Held.due(x, NONE, "listed", 0, 24, -1);
    Held.due(x, NONE, "listed", 0, 24, 0);
    // eleven calls that take two, and twelve locals, have price 23: the last of the list has all calls ahead
    x = Held.of("w1;u0;l0,1;c0,1,0,0;");
    int size = 0;
    for (int p = 1; p <= 24; p++) size += x.many(0, p);
    Held.due(x, 23, "listed", 0, size - 1, -1);
    for (int j = 0; j < 23; j++) Held.due(x, j < 11 ? 1 : 0, "listed", 0, size - 1, j);
    Held.due(x, NONE, "listed", 0, size - 1, 23);
    Held.due(x, NONE, "listed", 0, size, -1);
  }

  private static void listOrder() {
    Held.sentence("all EXPRESSIONS of it, by growing PRICE, those of one PRICE by CODES (the first MEMBER that is another"
        + " one, by numbers); the first has place 0. Each is in it once.");
    WantedTypes x = Held.of("w3;u0;u0;u1;l2,2;l1,1;l0,1;c0,1,0;c2,1,2;");
    int[][] list = {{1}, {2}, {0}, {3, 1}, {3, 2}, {3, 0}, {3, 3, 1}, {3, 3, 2}, {4, 0}};
    for (int place = 0; place < list.length; place++) {
      for (int j = 0; j < list[place].length; j++) Held.due(x, list[place][j], "listed", 0, place, j);
      Held.due(x, NONE, "listed", 0, place, list[place].length);
      Held.write(x, 0, list[place]);
      Held.due(x, place, "place", 0, 0, list[place].length);
    }
    Held.due(x, 2, "many", 0, 1);
    Held.due(x, 3, "many", 0, 2);
    Held.due(x, 0, "listed", 2, 0, 0);
    Held.due(x, 1, "listed", 1, 0, 0);
  }

  /** The last three places that a number can tell, and the first that none can. */
  private static void lastPlaces() {
    Held.sentence("its PRICE is above 24, or the place above 999999998");
    WantedTypes x = billion(false);
    Held.due(x, 24, "listed", 0, 999999998, -1);
    int[] last = new int[20];
    int n = 0;
    for (int m = x.listed(0, 999999998, 0); m >= 0; m = x.listed(0, 999999998, n)) last[n++] = m;
    Held.write(x, 0, last);
    Held.due(x, 999999998, "place", 0, 0, n);
    Held.due(x, 10, "set", 0, 0, last[0]);
    Held.due(x, 2, "set", 0, n - 1, last[n - 1]);
    Held.due(x, 1, "set", 0, n - 1, last[n - 1] - 1);
    Held.due(x, 999999997, "place", 0, 0, n);
    Held.due(x, 1, "listed", 0, 999999997, n - 1);
    Held.due(x, 2048, "count", 3);
    Held.due(x, 0, "hide", 11, 0);
    Held.due(x, 999999998, "place", 0, 0, n);
    Held.due(x, 1, "listed", 0, 999999998, n - 1);
    x.set(0, n - 1, 2);
    Held.due(x, 24, "word", 0, 0, n, 1);
    Held.due(x, NONE, "place", 0, 0, n);
    Held.due(x, BAD, "listed", 0, 999999999, -1);
    x.hide(10, 1);
    Held.due(x, NONE, "listed", 0, 999999998, -1);
  }

  private static void wordBounds() {
    Held.sentence("BAD: ROW, n, what; STATE: no WORLD; NULL; PLACE.");
    Held.bounds(ListBoundaryTest::fiveWithRow, 0, 0, 7, "word", 0, 0, 1, 0);
    Held.bounds(ListBoundaryTest::fiveWithRow, 3, 0, 1, "word", 0, 0, 1, 0);
    Held.sentence("A WORD is n ITEMS (1 to 24) of a row, taken as a CODE");
    Held.bounds(ListBoundaryTest::fiveWithRow, 2, 1, 24, "word", 0, 0, 1, 0);
    Held.bounds(ListBoundaryTest::fiveWithRow, 2, 1, 24, "place", 0, 0, 1);
    WantedTypes x = Held.of("w1;u0;l0,1;c0,1,0;");
    x.row(0, 1, 25);
    for (int i = 0; i < 24; i++) x.set(0, i, 1);
    for (int n = 1; n <= 24; n++) Held.due(x, n, "word", 0, 25 - n, n, 1);
    Held.due(x, NONE, "word", 0, 0, 24, 1);
    Held.due(x, BAD, "word", 0, 0, 25, 1);
    for (int n = 1; n < 24; n++) Held.due(x, NONE, "word", 0, 1, n, 0);
    Held.due(x, 24, "word", 0, 1, 24, 1);
    Held.due(x, Held.PLACE, "word", 0, 2, 24, 1);
    Held.due(x, 24, "copy", 0, 1, 0, 0, 24);
    Held.due(x, 23, "place", 0, 0, 24);
    Held.due(x, BAD, "place", 0, 0, 25);
    Held.due(x, NONE, "place", 0, 0, 23);
    // the dearest word there is: 24 members of price 11, but for the last, which is of price 27
    x = Held.of("w1;u0;o0,9;m0,9,0;");
    x.row(0, 0, 24);
    for (int i = 0; i < 23; i++) x.set(0, i, 1);
    Held.due(x, 23 * 10 + 27, "word", 0, 0, 24, 1);
    Held.due(x, NONE, "place", 0, 0, 24);
  }

  private static void wordPlaces() {
    Held.sentence("Of a WORD, n ITEMS of a ROW from i on");
    WantedTypes x = Held.of(Held.TWELVE);
    x.row(0, 0, 0);
    x.row(1, 0, 1);
    x.row(2, 0, 40);
    for (int i : new int[] {-1, 0, 1, Held.MIN, Held.MAX}) Held.due(x, Held.PLACE, "word", 0, i, 1, 0);
    Held.due(x, 0, "word", 1, 0, 1, 0);
    for (int i : new int[] {-1, 1, Held.MIN, Held.MAX}) Held.due(x, Held.PLACE, "word", 1, i, 1, 0);
    Held.due(x, Held.PLACE, "word", 1, 0, 2, 0);
    for (int n = 1; n <= 24; n++) {
      Held.due(x, n == 1 ? 0 : NONE, "word", 2, 40 - n, n, 0);
      Held.due(x, Held.PLACE, "word", 2, 41 - n, n, 0);
      Held.due(x, Held.PLACE, "word", 2, -1, n, 0);
      Held.due(x, Held.PLACE, "word", 2, Held.MAX - n, n, 0);
      Held.due(x, Held.PLACE, "word", 2, Held.MAX, n, 0);
      Held.due(x, Held.PLACE, "word", 2, Held.MIN, n, 0);
    }
    Held.due(x, Held.NULL, "word", 3, 0, 1, 0);
    Held.due(x, Held.NULL, "word", 3, -1, 24, 1);
    Held.sentence("The place of a WORD, n ITEMS of a ROW from 0 on");
    Held.due(x, Held.PLACE, "place", 0, 0, 1);
    Held.due(x, 0, "place", 0, 1, 1);
    Held.due(x, Held.PLACE, "place", 0, 1, 2);
    Held.due(x, NONE, "place", 0, 2, 24);
    Held.due(x, Held.NULL, "place", 0, 3, 24);
    for (int n = 1; n < 24; n++) {
      x.row(4, 2, n);
      Held.due(x, n == 1 ? 0 : NONE, "place", 0, 4, n);
      Held.due(x, Held.PLACE, "place", 0, 4, n + 1);
    }
  }

  private static void wholeWords() {
    Held.sentence("NONE: it is not WHOLE.");
    WantedTypes x = Held.of(Held.TWELVE);
    x.row(0, 2, 1);
    for (int m : new int[] {-1, 12, Held.MIN, Held.MAX, 255, 65536}) {
      x.set(0, 0, m);
      Held.due(x, NONE, "word", 0, 0, 1, 0);
      Held.due(x, NONE, "place", 0, 0, 1);
    }
    Held.sentence("it is WHOLE, if it is just the CODE of one EXPRESSION (of PRICE 1 to 24 or not, but none of it"
        + " HIDDEN).");
    for (int m = 0; m < 12; m++) {
      x.set(0, 0, m);
      Held.due(x, m + 1, "word", 0, 0, 1, 1);
      Held.due(x, m, "place", 0, 0, 1);
      x.hide(m, 1);
      Held.due(x, NONE, "word", 0, 0, 1, 1);
      Held.due(x, NONE, "place", 0, 0, 1);
      x.undo();
    }
    x = Held.of("w3;u0;u0;u0;l1,9;l2,9;c0,9,1,2;");
    Held.write(x, 0, 2, 0, 1, 0);
    Held.due(x, NONE, "word", 0, 0, 1, 0);
    Held.due(x, NONE, "word", 0, 0, 2, 0);
    Held.due(x, 27, "word", 0, 0, 3, 1);
    Held.due(x, NONE, "word", 0, 0, 4, 0);
    Held.due(x, NONE, "place", 0, 0, 3);
    Held.write(x, 0, 2, 1, 0);
    Held.due(x, NONE, "word", 0, 0, 3, 0);
    // the type above will not do where one below is taken, the one below will where one above is
    x.above(2, 1);
    Held.write(x, 0, 2, 1, 1);
    Held.due(x, 0, "word", 0, 0, 3, 0);
    Held.write(x, 0, 2, 0, 0);
    Held.due(x, NONE, "word", 0, 0, 3, 0);
    x = Held.of("w1;u0;c0,1,0,0;l0,1;");
    x.row(0, 0, 24);
    for (int n = 1; n <= 24; n++) Held.due(x, NONE, "word", 0, 0, n, 0);
    for (int i = 11; i < 24; i++) x.set(0, i, 1);
    for (int n = 1; n <= 24; n++) Held.due(x, n == 23 ? 23 : NONE, "word", 0, 0, n, 1);
  }

  private static void placeBounds() {
    Held.sentence("BAD: TYPE, ROW, n; NULL; PLACE.");
    Held.bounds(ListBoundaryTest::fiveWithRow, 0, 0, 3, "place", 0, 0, 1);
    Held.bounds(ListBoundaryTest::fiveWithRow, 1, 0, 7, "place", 0, 0, 1);
    Held.due(five(), BAD, "place", 4, 0, 1);
    Held.due(five(), BAD, "place", 0, 8, 1);
    Held.due(five(), BAD, "place", 0, 0, 25);
    Held.due(five(), Held.NULL, "place", 0, 0, 24);
  }

  private static void placeOfNone() {
    Held.sentence("NONE: it is not WHOLE, not of that TYPE, its PRICE is above 24");
    WantedTypes x = Held.of("w3;u0;u0;u2;l0,1;l1,1;l2,1;o1,8;o1,9;");
    int[][] places = {{0, NONE, NONE}, {1, 0, NONE}, {NONE, NONE, 0}, {2, 1, NONE}, {NONE, NONE, NONE}};
    for (int m = 0; m < 5; m++) {
      Held.write(x, 0, m, m);
      for (int t = 0; t < 3; t++) {
        Held.due(x, places[m][t], "place", t, 0, 1);
        Held.due(x, NONE, "place", t, 0, 2);
      }
    }
  }

  private static void had() {
    Held.sentence("HAD (bits). STATE: no WORLD.");
    Held.due(new WantedTypes(), Held.STATE, "had");
    WantedTypes none = new WantedTypes();
    Held.tell(none, "w1;u0;l0,0;");
    Held.due(none, Held.STATE, "had");
    Held.tell(none, "w1;u0;l0,1;");
    Held.due(none, 1, "had");
    Held.sentence("TYPES (bits) of which there is an EXPRESSION of any PRICE (also above 24)");
    WantedTypes x = Held.of("w8;u0;u1;u2;u3;u4;u5;u6;u7;o0,9;" + tower());
    Held.due(x, 255, "had");
    Held.due(x, NONE, "cheapest", 7);
    x.hide(0, 1);
    Held.due(x, 0, "had");
    x.undo();
    x.hide(4, 1);
    Held.due(x, 15, "had");
    Held.due(Held.of("w1;u0;c0,1,0;"), 0, "had");
    Held.due(Held.of("w2;u0;u0;l0,1;"), 1, "had");
    Held.due(Held.of("w2;u0;u0;l1,1;"), 3, "had");
  }

  /** Each type takes two of the one before it: of type 7 the cheapest has 255 members. */
  private static String tower() {
    StringBuilder text = new StringBuilder();
    for (int t = 1; t < 8; t++) text.append("m" + t + ",9," + (t - 1) + "," + (t - 1) + ";");
    return text.toString();
  }

  private static void needed() {
    Held.sentence("NEEDED (bits). BAD.");
    Held.bounds(ListBoundaryTest::five, 0, 0, 3, "needed", 0);
    Held.bounds(() -> Held.of("w8;" + "u0;".repeat(8) + "l0,1;"), 0, 0, 7, "needed", 0);
    Held.sentence("would let there be none of any PRICE (0, if there is none as it is)");
    WantedTypes x = Held.of("w8;u0;u1;u2;u3;u4;u5;u6;u7;o0,9;" + tower());
    for (int t = 0; t < 8; t++) Held.due(x, (2 << t) - 1, "needed", t);
    x.hide(3, 1);
    for (int t = 0; t < 8; t++) Held.due(x, t < 3 ? (2 << t) - 1 : 0, "needed", t);
    x = Held.of(Held.TWELVE);
    Held.due(x, 0, "needed", 0);
    for (int m = 0; m < 11; m++) x.hide(m, 1);
    Held.due(x, 2048, "needed", 0);
    x.hide(11, 1);
    Held.due(x, 0, "needed", 0);
    x.hide(0, 0);
    Held.due(x, 1, "needed", 0);
  }

  private static void without() {
    Held.sentence("WITHOUT; NONE. BAD.");
    Held.bounds(ListBoundaryTest::five, 0, 0, 3, "without", 0, 0);
    Held.bounds(ListBoundaryTest::five, 1, 0, 4, "without", 0, 0);
    Held.bounds(() -> Held.of(Held.TWELVE), 1, 0, 11, "without", 0, 0);
    Held.due(five(), BAD, "without", 4, 5);
    Held.sentence("the PRICE of the first of THE LIST of a TYPE, were it HIDDEN; NONE.");
    WantedTypes x = Held.of("w1;u0;l0,1;o0,8;");
    Held.due(x, 24, "without", 0, 0);
    Held.due(x, 1, "without", 0, 1);
    x.cost(1, 9);
    Held.due(x, NONE, "without", 0, 0);
    Held.due(x, 1, "without", 0, 1);
    x.hide(0, 1);
    Held.due(x, NONE, "without", 0, 0);
    Held.due(x, NONE, "without", 0, 1);
    x.cost(1, 8);
    Held.due(x, 24, "without", 0, 0);
    Held.due(x, NONE, "without", 0, 1);
    Held.due(x, 1, "count", 3);
  }

  /** Each type is had by a call of the one before it alone, and the members are told in the other order. */
  private static void takenBeforeItIsTold() {
    Held.sentence("TYPES (bits) of which there is an EXPRESSION of any PRICE (also above 24)");
    String types = "w8;u0;u1;u2;u3;u4;u5;u6;u7;";
    WantedTypes x = Held.of(types + "c7,4,6;c6,4,5;c5,4,4;c4,4,3;c3,4,2;c2,4,1;c1,4,0;l0,1;");
    Held.due(x, 255, "had");
    for (int t = 0; t < 8; t++) {
      Held.due(x, t < 6 ? 1 + 4 * t : NONE, "cheapest", t);
      Held.due(x, 256 - (1 << 7 - t), "needed", t);
      for (int m = 0; m < 8; m++) Held.due(x, m < 7 - t && t < 6 ? 1 + 4 * t : NONE, "without", t, m);
    }
    x.hide(4, 1);
    Held.due(x, 7, "had");
    Held.due(x, 224, "needed", 2);
    Held.due(x, 0, "needed", 3);
    Held.sentence("PRICE of the first of THE LIST of a TYPE; NONE. BAD.");
    // what is dear at first is had for less by a way that is found later
    x = Held.of("w4;u0;u1;u2;u3;c3,1,2,1;c2,1,1,0;l1,9;l2,9;c1,1,0;l0,1;");
    int[] least = {1, 2, 4, 7};
    int[] withoutCall = {1, 9, 9, 12};
    for (int t = 0; t < 4; t++) {
      Held.due(x, least[t], "cheapest", t);
      Held.due(x, least[t], "listed", t, 0, -1);
    }
    Held.due(x, withoutCall[1], "without", 1, 4);
    Held.due(x, withoutCall[2], "without", 2, 1);
    Held.due(x, withoutCall[3], "without", 3, 1);
  }

  private static void shareBounds() {
    Held.sentence("SHARE of a MEMBER, n in all (0 to 999)");
    Held.bounds(ListBoundaryTest::five, 0, 0, 4, "share", 0, 1);
    Held.bounds(() -> Held.of(Held.TWELVE), 0, 0, 11, "share", 0, 1);
    Held.sentence("SHARE. BAD.");
    Held.due(five(), BAD, "share", 5, 1000);
    Held.due(five(), BAD, "share", 4, 1000);
    Held.due(five(), BAD, "share", 5, 999);
    Held.bounds(ListBoundaryTest::five, 1, 0, 999, "share", 0, 1);
    WantedTypes x = five();
    x.hide(0, 1);
    Held.due(x, BAD, "share", 0, 1000);
    Held.due(x, BAD, "share", 0, -1);
    Held.due(x, 0, "share", 0, 999);
    Held.due(x, 0, "share", 0, 0);
    x = Held.of("w1;u0;o0,9;");
    for (int n : new int[] {0, 1, 998, 999}) Held.due(x, n, "share", 0, n);
  }

  private static void shareOver() {
    Held.sentence("n times its PRICE, by PRICES of all that are not HIDDEN (cut), what is over 1 each to the first of"
        + " these; 0 of one that is HIDDEN.");
    // twelve of one price: n in all is a twelfth each, and the first rest by 12 have one more
    WantedTypes x = Held.of("w1;u0;" + "l0,9;".repeat(12));
    for (int n : new int[] {0, 1, 11, 12, 13, 23, 24, 998, 999}) {
      for (int m = 0; m < 12; m++) Held.due(x, n / 12 + (m < n % 12 ? 1 : 0), "share", m, n);
    }
    for (int m = 0; m < 12; m += 2) x.hide(m, 1);
    for (int n : new int[] {0, 1, 5, 6, 7, 999}) {
      for (int m = 0; m < 12; m++) {
        Held.due(x, m % 2 == 0 ? 0 : n / 6 + (m / 2 < n % 6 ? 1 : 0), "share", m, n);
      }
    }
    for (int m = 1; m < 11; m += 2) x.hide(m, 1);
    Held.due(x, 999, "share", 11, 999);
    x.hide(11, 1);
    for (int m = 0; m < 12; m++) Held.due(x, 0, "share", m, 999);
    Held.sentence("All that is divided is cut towards 0.");
    // prices 1 to 12, together 78: of 77, each has less than its price, and what is over is 11 at most
    x = Held.of(Held.TWELVE);
    int[] shares = {1, 2, 3, 4, 5, 6, 7, 8, 9, 10, 11, 11};
    for (int m = 0; m < 12; m++) Held.due(x, shares[m], "share", m, 77);
    for (int m = 0; m < 12; m++) Held.due(x, m + 1, "share", m, 78);
    for (int m = 0; m < 12; m++) Held.due(x, m == 0 ? 2 : m + 1, "share", m, 79);
  }

  private static void drawnBounds() {
    Held.sentence("DRAWN by a SEED (1 to 999999): PRICE (what = 0), MEMBERS (1). BAD; STATE: THE LIST is empty.");
    Held.bounds(ListBoundaryTest::five, 0, 0, 3, "drawn", 0, 1, 1, 0);
    Held.bounds(ListBoundaryTest::five, 2, 1, 999999, "drawn", 0, 1, 1, 0);
    Held.bounds(ListBoundaryTest::five, 3, 0, 1, "drawn", 0, 1, 1, 0);
    Held.sentence("DRAWN of a TYPE, n times (1 to 60) by a SEED (X at first)");
    Held.bounds(ListBoundaryTest::five, 1, 1, 60, "drawn", 0, 1, 1, 0);
    Held.sentence("STATE: THE LIST is empty.");
    WantedTypes x = Held.of("w2;u0;u1;o0,8;o1,9;");
    Held.due(x, 24, "drawn", 0, 1, 1, 0);
    Held.due(x, Held.STATE, "drawn", 1, 1, 1, 0);
    Held.due(x, Held.STATE, "drawn", 1, 60, 999999, 1);
    int[][] bad = {{2, 1, 1, 0}, {-1, 1, 1, 0}, {1, 0, 1, 0}, {1, 61, 1, 0}, {1, 1, 0, 0}, {1, 1, 1000000, 0},
        {1, 1, 1, -1}, {1, 1, 1, 2}};
    for (int[] a : bad) Held.due(x, BAD, "drawn", a);
    x.cost(1, 8);
    Held.due(x, 24 * 60, "drawn", 1, 60, 1, 0);
    Held.due(x, 60, "drawn", 1, 60, 1, 1);
    x.hide(1, 1);
    Held.due(x, Held.STATE, "drawn", 1, 60, 1, 1);
  }

  private static void drawnSizes() {
    Held.sentence("(of PRICE 24 or less; by 999999999, if there are more)");
    drawn(billion(false), MOST);
    drawn(billion(true), MOST);
    WantedTypes less = billion(false);
    less.hide(10, 1);
    drawn(less, 666666666);
    drawn(Held.of("w1;u0;" + "l0,1;".repeat(6) + "c0,1,0,0;".repeat(6)), MOST);
    drawn(Held.of("w1;u0;l0,1;c0,1,0;"), 24);
    drawn(Held.of("w1;u0;l0,1;c0,2,0;"), 12);
    drawn(Held.of("w1;u0;o0,8;"), 1);
  }

  private static void drawn(WantedTypes x, int size) {
    for (int seed : new int[] {1, 2, 7, 127773, 999998, 999999}) {
      long at = seed;
      int price = 0;
      int members = 0;
      for (int n = 1; n <= 3; n++) {
        at = at * 16807 % 2147483647;
        int place = (int) (at % size);
        price += x.listed(0, place, -1);
        members += length(x, place);
        Held.due(x, price, "drawn", 0, n, seed, 0);
        Held.due(x, members, "drawn", 0, n, seed, 1);
      }
    }
  }

  /** By halves, so that few calls tell it. */
  private static int length(WantedTypes x, int place) {
    int least = 1;
    int most = 24;
    while (least < most) {
      int j = (least + most) / 2;
      if (x.listed(0, place, j) == NONE) most = j;
      else least = j + 1;
    }
    return least;
  }
}
