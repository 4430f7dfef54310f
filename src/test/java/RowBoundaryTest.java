/** Part 1, ROWS, and promises 2 to 5: every bound of a row, at it and beyond it. */
public final class RowBoundaryTest {
  private static final int MIN = Held.MIN, MAX = Held.MAX;

  public static void main(String[] args) {
    missingAtFirst();
    whichRow();
    lanes();
    howManyItems();
    zeroAtFirst();
    inPlaceOfWhatIsThere();
    lowestBits();
    placesOfSet();
    copiedAsTheyWereAhead();
    placesOfCopy();
    nullAndStore();
    dropped();
    Held.end();
  }

  /** Rows 0 to 3 of bytes: none, 1, 5, 40 items; row 4 of shorts, row 5 of ints, 5 items; 6, 7 missing. */
  private static WantedTypes rows() {
    WantedTypes x = Held.of(Held.TWELVE);
    int[] items = {0, 1, 5, 40};
    for (int r = 0; r < 4; r++) x.row(r, 0, items[r]);
    x.row(4, 1, 5);
    x.row(5, 2, 5);
    return x;
  }

  /** The items from 0 on, by the prices of the members that they are. */
  private static void items(WantedTypes x, int row, int... want) {
    for (int i = 0; i < want.length; i++) Held.due(x, want[i] + 1, "word", row, i, 1, 1);
  }

  private static void missingAtFirst() {
    Held.sentence("ROWS 0 .. 7 are missing (at first)");
    for (int r = 0; r < 8; r++) {
      Held.due(new WantedTypes(), Held.NULL, "drop", r);
      Held.due(new WantedTypes(), Held.NULL, "set", r, 0, 0);
      Held.due(new WantedTypes(), Held.NULL, "copy", r, 0, r, 0, 0);
      Held.due(Held.of(Held.TWELVE), Held.NULL, "word", r, 0, 1, 0);
      Held.due(Held.of(Held.TWELVE), Held.NULL, "place", 0, r, 1);
    }
    Held.due(new WantedTypes(), 0, "count", 0);
    WantedTypes x = new WantedTypes();
    for (int r = 0; r < 8; r++) {
      x.row(r, 0, 0);
      Held.due(x, r + 1, "count", 0);
    }
  }

  private static void whichRow() {
    Held.sentence("BAD: ROW, LANE, n above 40; SIZE.");
    Held.bounds(WantedTypes::new, 0, 0, 7, "row", 0, 0, 1);
    Held.sentence("what it is then. BAD: ROW; NULL; PLACE.");
    Held.bounds(RowBoundaryTest::all, 0, 0, 7, "set", 0, 0, 1);
    Held.sentence("BAD: ROWS; NULL; STORE; PLACE (i, j, n below 0, or beyond an end).");
    Held.bounds(RowBoundaryTest::all, 0, 0, 7, "copy", 0, 0, 3, 0, 1);
    Held.bounds(RowBoundaryTest::all, 2, 0, 7, "copy", 3, 0, 0, 0, 1);
    Held.sentence("how many ITEMS it had. BAD; NULL.");
    Held.bounds(RowBoundaryTest::all, 0, 0, 7, "drop", 0);
  }

  private static WantedTypes all() {
    WantedTypes x = new WantedTypes();
    for (int r = 0; r < 8; r++) x.row(r, 0, 1);
    return x;
  }

  private static void lanes() {
    Held.sentence("have a LANE (0 bytes, 1 shorts, 2 ints)");
    Held.bounds(WantedTypes::new, 1, 0, 2, "row", 0, 0, 1);
    int[] bits = {-1, -1, 0x1ffff};
    int[] high = {0, 1 << 8, 1 << 16};
    for (int lane = 0; lane < 3; lane++) {
      WantedTypes x = new WantedTypes();
      x.row(0, lane, 1);
      Held.due(x, bits[lane], "set", 0, 0, 0x1ffff);
      Held.due(x, high[lane], "set", 0, 0, high[lane]);
    }
  }

  private static void howManyItems() {
    Held.sentence("and 0 to 40 ITEMS");
    for (int n : new int[] {0, 1, 39, 40}) {
      WantedTypes x = new WantedTypes();
      Held.due(x, n, "row", 3, 1, n);
      Held.due(x, n, "drop", 3);
    }
    Held.beyond(WantedTypes::new, 2, 41, Held.BAD, "row", 0, 0, 0);
    Held.sentence("4 SIZE (fewer than none)");
    Held.beyond(WantedTypes::new, 2, -1, Held.SIZE, "row", 0, 0, 0);
    Held.due(new WantedTypes(), Held.BAD, "row", 8, 0, -1);
    Held.due(new WantedTypes(), Held.BAD, "row", 0, 3, -1);
    WantedTypes x = rows();
    Held.due(x, Held.SIZE, "row", 6, 0, -1);
    Held.due(x, Held.SIZE, "row", 3, 2, -1);
    Held.due(x, 6, "count", 0);
    Held.due(x, 40, "drop", 3);
  }

  private static void zeroAtFirst() {
    Held.sentence("0 to 40 ITEMS, 0 at first.");
    for (int lane = 0; lane < 3; lane++) {
      WantedTypes x = Held.of(Held.TWELVE);
      x.row(7, lane, 40);
      items(x, 7, new int[40]);
      Held.due(x, Held.PLACE, "word", 7, 40, 1, 1);
    }
  }

  private static void inPlaceOfWhatIsThere() {
    Held.sentence("A ROW of a LANE with n ITEMS, in place of what is there: n.");
    WantedTypes x = Held.of(Held.TWELVE);
    x.row(0, 2, 40);
    for (int i = 0; i < 40; i++) x.set(0, i, 11);
    Held.due(x, 3, "row", 0, 0, 3);
    items(x, 0, 0, 0, 0);
    Held.due(x, Held.PLACE, "word", 0, 3, 1, 1);
    Held.due(x, -128, "set", 0, 0, 128);
    Held.due(x, 40, "row", 0, 2, 40);
    items(x, 0, new int[40]);
    Held.due(x, 128, "set", 0, 39, 128);
    Held.due(x, 1, "count", 0);
    Held.due(x, 0, "row", 0, 2, 0);
    Held.due(x, Held.PLACE, "set", 0, 0, 1);
    Held.due(x, 1, "count", 0);
    x.drop(0);
    Held.due(x, 40, "row", 0, 2, 40);
    items(x, 0, new int[40]);
  }

  private static void lowestBits() {
    Held.sentence("ITEM i becomes v, its lowest bits, as many as the LANE has");
    int[][] bytes = {{-128, -128}, {-129, 127}, {127, 127}, {128, -128}, {-1, -1}, {0, 0}, {255, -1}, {256, 0},
        {-256, 0}, {-257, -1}, {MIN, 0}, {MAX, -1}};
    int[][] shorts = {{-32768, -32768}, {-32769, 32767}, {32767, 32767}, {32768, -32768}, {-1, -1}, {0, 0},
        {65535, -1}, {65536, 0}, {-65536, 0}, {-65537, -1}, {MIN, 0}, {MAX, -1}};
    int[][] ints = {{MIN, MIN}, {MAX, MAX}, {MIN + 1, MIN + 1}, {MAX - 1, MAX - 1}, {-1, -1}, {0, 0}, {65536, 65536},
        {-1000001, -1000001}};
    int[][][] lanes = {bytes, shorts, ints};
    for (int lane = 0; lane < 3; lane++) {
      WantedTypes x = new WantedTypes();
      x.row(lane, lane, 1);
      for (int[] v : lanes[lane]) Held.due(x, v[1], "set", lane, 0, v[0]);
    }
    WantedTypes x = rows();
    Held.due(x, 11, "set", 2, 0, 256 + 11);
    Held.due(x, 11, "set", 4, 0, 65536 + 11);
    items(x, 2, 11);
    items(x, 4, 11);
    Held.due(x, 256 + 11, "set", 4, 0, 256 + 11);
    Held.due(x, Held.NONE, "word", 4, 0, 1, 1);
  }

  private static void placesOfSet() {
    Held.sentence("2 PLACE (no such place of a ROW)");
    int[] sizes = {0, 1, 5, 40};
    for (int r = 0; r < 4; r++) {
      WantedTypes x = rows();
      int n = sizes[r];
      for (int i : new int[] {-1, MIN, n, n + 1, MAX}) Held.due(x, Held.PLACE, "set", r, i, 3);
      if (n == 0) continue;
      Held.due(x, 4, "set", r, n - 1, 4);
      Held.due(x, 5, "set", r, 0, 5);
      if (n > 1) items(x, r, 5, 0);
      Held.due(x, n == 1 ? 6 : 5, "word", r, n - 1, 1, 1);
    }
    WantedTypes x = rows();
    for (int i : new int[] {-1, 0, 40, MAX}) Held.due(x, Held.NULL, "set", 6, i, 0);
  }

  private static void copiedAsTheyWereAhead() {
    Held.sentence("n ITEMS of a from i on come to b from j on, as they were ahead: n.");
    WantedTypes x = Held.of(Held.TWELVE);
    Held.write(x, 0, 1, 2, 3, 4, 5);
    Held.due(x, 4, "copy", 0, 0, 0, 1, 4);
    items(x, 0, 1, 1, 2, 3, 4);
    Held.write(x, 0, 1, 2, 3, 4, 5);
    Held.due(x, 4, "copy", 0, 1, 0, 0, 4);
    items(x, 0, 2, 3, 4, 5, 5);
    Held.due(x, 5, "copy", 0, 0, 0, 0, 5);
    items(x, 0, 2, 3, 4, 5, 5);
    Held.write(x, 1, 11, 10, 9);
    Held.due(x, 1, "copy", 0, 4, 1, 2, 1);
    items(x, 1, 11, 10, 5);
    Held.due(x, 3, "copy", 1, 0, 0, 2, 3);
    items(x, 0, 2, 3, 11, 10, 5);
    items(x, 1, 11, 10, 5);
    x.row(2, 2, 40);
    x.row(3, 2, 40);
    for (int i = 0; i < 40; i++) x.set(2, i, i % 12);
    Held.due(x, 40, "copy", 2, 0, 3, 0, 40);
    for (int i = 0; i < 40; i++) Held.due(x, i % 12 + 1, "word", 3, i, 1, 1);
  }

  private static void placesOfCopy() {
    Held.sentence("PLACE (i, j, n below 0, or beyond an end)");
    WantedTypes x = rows();
    // of row 2 (5 items) to row 3 (40) the end of a bounds, the other way that of b
    for (int n = 0; n <= 5; n++) {
      Held.due(x, n, "copy", 2, 5 - n, 3, 0, n);
      Held.due(x, Held.PLACE, "copy", 2, 6 - n, 3, 0, n);
      Held.due(x, n, "copy", 3, 0, 2, 5 - n, n);
      Held.due(x, Held.PLACE, "copy", 3, 0, 2, 6 - n, n);
      Held.due(x, n, "copy", 3, 40 - n, 3, 0, n);
      Held.due(x, Held.PLACE, "copy", 3, 41 - n, 3, 0, n);
    }
    Held.due(x, Held.PLACE, "copy", 2, 0, 3, 0, 6);
    Held.due(x, Held.PLACE, "copy", 3, 0, 2, 0, 6);
    Held.due(x, Held.PLACE, "copy", 3, 0, 3, 0, 41);
    for (int v : new int[] {-1, MIN}) {
      Held.due(x, Held.PLACE, "copy", 2, v, 3, 0, 0);
      Held.due(x, Held.PLACE, "copy", 2, 0, 3, v, 0);
      Held.due(x, Held.PLACE, "copy", 2, 0, 3, 0, v);
      Held.due(x, Held.PLACE, "copy", 2, 1, 3, 1, v);
      Held.due(x, Held.PLACE, "copy", 2, v, 3, v, v);
    }
    for (int v : new int[] {MAX, MAX - 1}) {
      Held.due(x, Held.PLACE, "copy", 2, v, 3, 0, 5);
      Held.due(x, Held.PLACE, "copy", 2, 0, 3, v, 5);
      Held.due(x, Held.PLACE, "copy", 2, 0, 3, 0, v);
      Held.due(x, Held.PLACE, "copy", 2, v, 3, v, v);
    }
    Held.due(x, 0, "copy", 0, 0, 0, 0, 0);
    Held.due(x, 0, "copy", 0, 0, 3, 40, 0);
    Held.due(x, Held.PLACE, "copy", 0, 1, 3, 0, 0);
    Held.due(x, Held.PLACE, "copy", 0, 0, 3, 0, 1);
    Held.due(x, Held.PLACE, "copy", 3, 0, 0, 0, 1);
  }

  private static void nullAndStore() {
    Held.sentence("1 NULL (a ROW that is missing)");
    Held.due(rows(), Held.NULL, "copy", 6, 0, 2, 0, 1);
    Held.due(rows(), Held.NULL, "copy", 2, 0, 6, 0, 1);
    Held.due(rows(), Held.NULL, "copy", 6, 0, 7, 0, 1);
    Held.due(rows(), Held.NULL, "copy", 6, 0, 6, 0, 0);
    Held.due(rows(), Held.NULL, "copy", 6, -1, 2, -1, -1);
    Held.due(rows(), Held.NULL, "copy", 2, 9, 6, 9, 9);
    Held.sentence("5 STORE (ROWS of two LANES)");
    int[][] lanes = {{2, 4}, {4, 2}, {2, 5}, {5, 2}, {4, 5}, {5, 4}, {0, 4}};
    for (int[] two : lanes) {
      Held.due(rows(), Held.STORE, "copy", two[0], 0, two[1], 0, 1);
      Held.due(rows(), Held.STORE, "copy", two[0], 0, two[1], 0, 0);
      Held.due(rows(), Held.STORE, "copy", two[0], -1, two[1], 0, 1);
      Held.due(rows(), Held.STORE, "copy", two[0], 0, two[1], 0, 41);
    }
    Held.due(rows(), 1, "copy", 4, 0, 4, 1, 1);
    Held.due(rows(), 1, "copy", 5, 0, 5, 1, 1);
  }

  private static void dropped() {
    Held.sentence("A ROW is missing from now on: how many ITEMS it had.");
    WantedTypes x = rows();
    int[] had = {0, 1, 5, 40, 5, 5};
    for (int r = 0; r < 6; r++) {
      Held.due(x, had[r], "drop", r);
      Held.due(x, 5 - r, "count", 0);
      Held.due(x, Held.NULL, "drop", r);
      Held.due(x, Held.NULL, "set", r, 0, 0);
      Held.due(x, Held.NULL, "word", r, 0, 1, 0);
      Held.due(x, Held.NULL, "place", 0, r, 1);
    }
  }
}
