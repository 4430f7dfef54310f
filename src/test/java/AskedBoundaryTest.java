/** Part 4, KINDS, and promises 27 to 30 and 32: kinds, asks, the trace and the status at their bounds. */
public final class AskedBoundaryTest {
  public static void main(String[] args) {
    kind();
    as();
    askBounds();
    traceIsEmptyAhead();
    traceBounds();
    statusAtFirst();
    statusOfEachFinding();
    statusIsLeft();
    statusIsSetBack();
    Held.end();
  }

  private static WantedTypes five() {
    return Held.of(Held.FIVE);
  }

  private static WantedTypes twelve() {
    return Held.of(Held.TWELVE);
  }

  private static void kind() {
    Held.sentence("The KIND of a MEMBER, as told (1 to 5). BAD.");
    Held.bounds(AskedBoundaryTest::five, 0, 0, 4, "kind", 0);
    Held.bounds(AskedBoundaryTest::twelve, 0, 0, 11, "kind", 0);
    for (int m = 0; m < 5; m++) Held.due(five(), m + 1, "kind", m);
  }

  private static void as() {
    Held.sentence("A MEMBER is taken as one of a KIND (0 .. 5): its number. BAD; KIND: it is no such one.");
    Held.bounds(AskedBoundaryTest::five, 0, 0, 4, "as", 0, 0);
    Held.bounds(AskedBoundaryTest::twelve, 0, 0, 11, "as", 0, 0);
    for (int m = 0; m < 5; m++) {
      Held.beyond(AskedBoundaryTest::five, 1, -1, Held.BAD, "as", m, 0);
      Held.beyond(AskedBoundaryTest::five, 1, 6, Held.BAD, "as", m, 0);
    }
    Held.due(five(), Held.BAD, "as", 5, 5);
    Held.sentence("0 MEMBER; 1 LOCAL, a MEMBER; 2 FAR, a LOCAL; 3 OLD, a LOCAL; 4 CALL, a MEMBER; 5 MAKER, a CALL.");
    String[] is = {"##....", "###...", "##.#..", "#...#.", "#...##"};
    for (int m = 0; m < 5; m++) {
      for (int k = 0; k < 6; k++) Held.due(five(), is[m].charAt(k) == '#' ? m : Held.KIND, "as", m, k);
    }
    // that a member is hidden makes it no other
    WantedTypes x = five();
    for (int m = 0; m < 5; m++) x.hide(m, 1);
    for (int m = 0; m < 5; m++) {
      for (int k = 0; k < 6; k++) Held.due(x, is[m].charAt(k) == '#' ? m : Held.KIND, "as", m, k);
    }
  }

  private static void askBounds() {
    Held.sentence("An ASK (0, 1) of a MEMBER. BAD.");
    Held.bounds(AskedBoundaryTest::five, 0, 0, 4, "ask", 0, 0);
    Held.bounds(AskedBoundaryTest::twelve, 0, 0, 11, "ask", 0, 0);
    for (int m = 0; m < 5; m++) Held.bounds(AskedBoundaryTest::five, 1, 0, 1, "ask", m, 0);
    Held.due(new WantedTypes(), Held.BAD, "ask", 0, 0);
    // the least and the greatest that an ask can answer
    WantedTypes x = Held.of("w8;u0;u0;u0;u0;u0;u0;u0;u0;" + "o0,1;".repeat(5) + "f7,9;".repeat(6) + "m7,1,0;");
    Held.due(x, -1000, "ask", 0, 1);
    Held.due(x, -999, "ask", 0, 0);
    Held.due(x, 11 + 198, "ask", 11, 1);
    Held.due(x, -198, "ask", 11, 0);
    Held.due(x, -(9 + 34), "ask", 10, 0);
    Held.due(x, 34, "ask", 10, 1);
  }

  private static void traceIsEmptyAhead() {
    Held.sentence("THE TRACE is empty ahead of it.");
    WantedTypes x = five();
    x.ask(1, 0);
    int[] far = {12, 11, 10, 24, 21, 20};
    for (int i = 0; i < 6; i++) Held.due(x, far[i], "trace", i);
    x.ask(0, 1);
    Held.due(x, 21, "trace", 0);
    Held.due(x, 20, "trace", 1);
    for (int i = 2; i < 17; i++) Held.due(x, Held.NONE, "trace", i);
    Held.sentence("What is refused, or found, changes nothing but status().");
    int[][] bad = {{5, 0}, {-1, 0}, {0, 2}, {0, -1}, {Held.MAX, Held.MAX}, {Held.MIN, 0}};
    for (int[] a : bad) {
      Held.due(x, Held.BAD, "ask", a);
      Held.due(x, 21, "trace", 0);
      Held.due(x, 20, "trace", 1);
      Held.due(x, Held.NONE, "trace", 2);
    }
  }

  private static void traceBounds() {
    Held.sentence("Number i of THE TRACE; NONE.");
    for (int i : new int[] {Held.MIN, -1, 0, 1, 15, 16, 17, Held.MAX}) {
      Held.due(new WantedTypes(), Held.NONE, "trace", i);
      Held.due(five(), Held.NONE, "trace", i);
    }
    Held.sentence("each of which leaves its number in THE TRACE as it begins (the first 16)");
    int[][][] traces = {{{11, 10, 21, 20}, {21, 20}}, {{12, 11, 10, 24, 21, 20}, {24, 21, 20}},
        {{11, 10, 22, 21, 20}, {22, 21, 20}}, {{13, 10}, {23, 20, 13, 10}}, {{14, 13, 10}, {23, 20, 14, 13, 10}}};
    WantedTypes x = five();
    for (int m = 0; m < 5; m++) {
      for (int what = 0; what < 2; what++) {
        x.ask(m, what);
        int[] trace = traces[m][what];
        for (int i = 0; i < trace.length; i++) Held.due(x, trace[i], "trace", i);
        for (int i : new int[] {-1, Held.MIN, trace.length, 15, 16, Held.MAX}) Held.due(x, Held.NONE, "trace", i);
      }
    }
  }

  private static void statusAtFirst() {
    Held.sentence("0: it had none, or there was none.");
    Held.due(new WantedTypes(), 0, "status");
    WantedTypes x = new WantedTypes();
    x.row(8, 0, 0);
    x.set(-1, 0, 0);
    x.copy(8, 0, 0, 0, 0);
    x.drop(8);
    x.word(0, 0, 1, 0);
    x.word(0, 0, 25, 0);
    x.place(0, 0, 1);
    x.as(0, 0);
    Held.due(x, 0, "status");
  }

  /** Rows 0 and 1 of two lanes, 1 item each; the others are missing. */
  private static WantedTypes rows() {
    WantedTypes x = five();
    x.row(0, 0, 1);
    x.row(1, 1, 1);
    return x;
  }

  private static void statusOfEachFinding() {
    Held.sentence("Of the latest call with a ROW, or as(), that was not BAD, STATE, FULL: the number of its FINDING");
    finding(1, "set", 2, 0, 0);
    finding(1, "copy", 2, 0, 0, 0, 0);
    finding(1, "copy", 0, 0, 2, 0, 0);
    finding(1, "drop", 2);
    finding(1, "word", 2, 0, 1, 0);
    finding(1, "place", 0, 2, 1);
    finding(2, "set", 0, 1, 0);
    finding(2, "copy", 0, 0, 0, 0, 2);
    finding(2, "word", 0, 1, 1, 0);
    finding(2, "place", 0, 0, 2);
    finding(3, "as", 0, 5);
    finding(4, "row", 0, 0, -1);
    finding(5, "copy", 0, 0, 1, 0, 0);
  }

  private static void finding(int number, String name, int... a) {
    WantedTypes x = rows();
    Held.due(x, 0, "status");
    Held.due(x, -1000010 - number, name, a);
    Held.due(x, number, "status");
    Held.due(x, number, "status");
  }

  /** What is BAD, STATE or FULL, and all calls without a row but as(), leave it. */
  private static void statusIsLeft() {
    Held.sentence("Of the latest call with a ROW, or as(), that was not BAD, STATE, FULL");
    WantedTypes x = new WantedTypes();
    x.drop(0);
    Held.due(x, Held.STATE, "word", 0, 0, 1, 0);
    Held.due(x, 1, "status");
    Held.due(x, Held.STATE, "had");
    Held.due(x, Held.STATE, "undo");
    for (int k = 0; k < 140; k++) x.feed('w');
    Held.due(x, Held.FULL, "feed", 'w');
    Held.due(x, Held.FAULT - 1, "world");
    Held.due(x, 1, "status");
    x = rows();
    x.as(0, 5);
    String[] without = {"hide", "cost", "above", "undo", "member", "type", "many", "cheapest", "listed", "had", "needed",
        "without", "share", "drawn", "image", "restore", "kind", "ask", "trace", "count", "feed", "world", "fault"};
    int[][] with = {{0, 1}, {0, 9}, {1, 1}, {}, {0, 0}, {0, 0}, {0, 1}, {0}, {0, 0, 0}, {}, {0}, {0, 0}, {0, 9},
        {0, 1, 1, 0}, {0}, {0}, {0}, {0, 0}, {0}, {0}, {1}, {}, {}};
    for (int k = 0; k < without.length; k++) {
      Held.call(x, without[k], with[k]);
      Held.due(x, 3, "status");
    }
    int[][] bad = {{8, 0, 0}, {0, 3, 0}, {0, 0, 41}};
    for (int[] a : bad) Held.due(x, Held.BAD, "row", a);
    Held.due(x, Held.BAD, "set", 8, 0, 0);
    Held.due(x, Held.BAD, "copy", 0, 0, 8, 0, 0);
    Held.due(x, Held.BAD, "drop", -1);
    Held.due(x, Held.BAD, "word", 0, 0, 0, 0);
    Held.due(x, Held.BAD, "place", 0, 0, 0);
    Held.due(x, Held.BAD, "as", 5, 0);
    Held.due(x, 3, "status");
  }

  private static void statusIsSetBack() {
    Held.sentence("0: it had none, or there was none.");
    setBack("row", 2, 0, 0);
    setBack("row", 0, 0, 40);
    setBack("set", 0, 0, Held.MIN);
    setBack("copy", 0, 1, 0, 1, 0);
    setBack("drop", 0);
    setBack("word", 0, 0, 1, 0);
    setBack("place", 0, 0, 1);
    setBack("place", 1, 0, 1);
    setBack("as", 0, 0);
    // NONE is an answer, no finding
    WantedTypes x = rows();
    x.hide(0, 1);
    x.drop(7);
    Held.due(x, Held.NONE, "word", 0, 0, 1, 0);
    Held.due(x, 0, "status");
    x.drop(7);
    Held.due(x, Held.NONE, "place", 0, 0, 1);
    Held.due(x, 0, "status");
  }

  private static void setBack(String name, int... a) {
    WantedTypes x = rows();
    x.drop(7);
    Held.due(x, 1, "status");
    Held.call(x, name, a);
    Held.due(x, 0, "status");
  }
}
