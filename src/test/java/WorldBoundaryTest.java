/** Part 2, ACTS, and promises 9 to 14, 25, 26 and 31: members, types, acts and images at their bounds. */
public final class WorldBoundaryTest {
  private static final String[] BAD_WITHOUT_WORLD = {"hide", "cost", "above", "member", "type", "many", "cheapest",
      "listed", "place", "needed", "without", "share", "drawn", "kind", "as", "ask"};
  private static final int[][] WITH = {{0, 1}, {0, 1}, {0, 0}, {0, 0}, {0, 0}, {0, 1}, {0}, {0, 0, 0}, {0, 0, 1}, {0},
      {0, 0}, {0, 0}, {0, 1, 1, 0}, {0}, {0, 0}, {0, 0}};

  public static void main(String[] args) {
    noWorld();
    hide();
    hideIsSo();
    cost();
    above();
    typesAboveOneAnother();
    undoNone();
    mostActs();
    actsOfEachSort();
    actsAround();
    refusedIsNoAct();
    member();
    price();
    type();
    image();
    restore();
    count();
    Held.end();
  }

  private static WantedTypes five() {
    return Held.of(Held.FIVE);
  }

  private static WantedTypes twelve() {
    return Held.of(Held.TWELVE);
  }

  private static WantedTypes eight() {
    return Held.of("w8;u0;u0;u1;u2;u3;u4;u5;u6;l7,1;");
  }

  private static void noWorld() {
    Held.sentence("`WantedTypes()`: No WORLD.");
    for (int k = 0; k < BAD_WITHOUT_WORLD.length; k++) {
      WantedTypes x = new WantedTypes();
      x.row(0, 0, 1);
      Held.due(x, Held.BAD, BAD_WITHOUT_WORLD[k], WITH[k]);
    }
    WantedTypes x = new WantedTypes();
    x.row(0, 0, 1);
    Held.due(x, Held.STATE, "word", 0, 0, 1, 0);
    Held.due(x, Held.STATE, "had");
    Held.due(x, Held.STATE, "undo");
    Held.due(x, Held.STATE, "image", 0);
    Held.due(x, Held.STATE, "restore", 0);
    for (int what = 1; what < 6; what++) Held.due(x, 0, "count", what);
  }

  private static void hide() {
    Held.sentence("HIDDEN (1), shown (0): MEMBERS (bits) that are HIDDEN then. BAD; STATE: it is so.");
    Held.bounds(WorldBoundaryTest::five, 0, 0, 4, "hide", 0, 1);
    Held.bounds(WorldBoundaryTest::twelve, 0, 0, 11, "hide", 0, 1);
    Held.answered(five(), "hide", 0, 1);
    WantedTypes x = five();
    for (int is : new int[] {-1, 2, Held.MIN, Held.MAX}) Held.due(x, Held.BAD, "hide", 0, is);
    x.hide(0, 1);
    for (int is : new int[] {-1, 2, Held.MIN, Held.MAX}) Held.due(x, Held.BAD, "hide", 0, is);
    x = twelve();
    int bits = 0;
    for (int m = 0; m < 12; m++) Held.due(x, bits |= 1 << m, "hide", m, 1);
    Held.due(x, 4095, "count", 3);
    for (int m = 11; m >= 0; m--) Held.due(x, bits ^= 1 << m, "hide", m, 0);
    Held.due(x, 0, "count", 3);
  }

  private static void hideIsSo() {
    Held.sentence("STATE: it is so.");
    WantedTypes x = twelve();
    for (int m = 0; m < 12; m++) Held.due(x, Held.STATE, "hide", m, 0);
    for (int m = 0; m < 12; m++) x.hide(m, 1);
    for (int m = 0; m < 12; m++) Held.due(x, Held.STATE, "hide", m, 1);
    Held.due(x, Held.BAD, "hide", 12, 1);
    Held.due(x, Held.BAD, "hide", 12, 0);
    x.undo();
    Held.due(x, Held.STATE, "hide", 11, 0);
    Held.due(x, Held.STATE, "hide", 10, 1);
  }

  private static void cost() {
    Held.sentence("COST of a MEMBER is v (1 to 9): what it was. BAD.");
    Held.bounds(WorldBoundaryTest::five, 0, 0, 4, "cost", 0, 1);
    Held.bounds(WorldBoundaryTest::twelve, 0, 0, 11, "cost", 0, 1);
    for (int m = 0; m < 5; m++) Held.bounds(WorldBoundaryTest::five, 1, 1, 9, "cost", m, 1);
    WantedTypes x = five();
    int was = 2;
    for (int v = 1; v <= 9; v++) {
      Held.due(x, was, "cost", 0, v);
      Held.due(x, v, "member", 0, 1);
      was = v;
    }
    Held.due(x, Held.BAD, "cost", 0, 10);
    Held.due(x, Held.BAD, "cost", 0, 0);
    Held.due(x, 9, "member", 0, 1);
    Held.due(x, 9, "count", 4);
  }

  private static void above() {
    Held.sentence("The TYPE right above a TYPE is another one (0 to its own number; itself: none): which it was. BAD.");
    Held.bounds(WorldBoundaryTest::eight, 0, 0, 7, "above", 0, 0);
    Held.bounds(WorldBoundaryTest::five, 0, 0, 3, "above", 0, 0);
    for (int t = 0; t < 8; t++) Held.bounds(WorldBoundaryTest::eight, 1, 0, t, "above", t, 0);
    for (int t = 0; t < 8; t++) {
      WantedTypes x = eight();
      Held.due(x, t == 0 ? 0 : t - 1, "above", t, t);
      Held.due(x, t, "type", t, 0);
      Held.due(x, 1 << t, "type", t, 1);
      Held.due(x, t, "above", t, 0);
      Held.due(x, 1 << t | 1, "type", t, 1);
      Held.due(x, 0, "above", t, t);
    }
  }

  /** Eight types in one line, each right below the one before it. */
  private static void typesAboveOneAnother() {
    Held.sentence("A TYPE is OF another one, if it is that, or the TYPE right above it is OF that.");
    WantedTypes x = eight();
    for (int t = 0; t < 8; t++) {
      Held.due(x, (2 << t) - 1, "type", t, 1);
      Held.due(x, 256 - (1 << t), "type", t, 2);
      Held.due(x, 1, "type", t, 3);
    }
    Held.due(x, 3, "above", 4, 4);
    for (int t = 0; t < 8; t++) {
      Held.due(x, t < 4 ? (2 << t) - 1 : (2 << t) - 16, "type", t, 1);
      Held.due(x, t < 4 ? 16 - (1 << t) : 256 - (1 << t), "type", t, 2);
      Held.due(x, t < 4 ? 0 : 1, "type", t, 3);
    }
    Held.due(x, 0, "undo");
    Held.due(x, 255, "type", 7, 1);
    Held.due(x, 255, "type", 0, 2);
  }

  private static void undoNone() {
    Held.sentence("how many can be undone yet. STATE: none.");
    Held.due(new WantedTypes(), Held.STATE, "undo");
    WantedTypes x = five();
    Held.due(x, Held.STATE, "undo");
    x.hide(0, 1);
    Held.due(x, 0, "undo");
    Held.due(x, Held.STATE, "undo");
    Held.due(x, 0, "count", 3);
  }

  private static void mostActs() {
    Held.sentence("ACTS (24 at most are kept, of more the oldest is forgotten; each can be undone, the latest first)");
    for (int acts : new int[] {1, 23, 24, 25, 26, 48, 49, 73}) {
      WantedTypes x = twelve();
      for (int k = 1; k <= acts; k++) {
        x.cost(0, costBehind(k));
        Held.due(x, Math.min(k, 24), "count", 4);
      }
      int kept = Math.min(acts, 24);
      for (int k = 1; k <= kept; k++) {
        Held.due(x, kept - k, "undo");
        Held.due(x, costBehind(acts - k), "member", 0, 1);
      }
      Held.due(x, Held.STATE, "undo");
      Held.due(x, acts > 24 ? costBehind(acts - 24) : 1, "member", 0, 1);
    }
  }

  /** The cost behind k acts; the text tells 1. */
  private static int costBehind(int k) {
    return 1 + k * 5 % 9;
  }

  private static void actsOfEachSort() {
    Held.sentence("a MEMBER is HIDDEN, or shown again; its COST is another; a TYPE is put right below another one of a"
        + " lesser number, or below none.");
    for (int ahead : new int[] {0, 22, 23, 24}) {
      WantedTypes x = five();
      for (int k = 1; k <= ahead; k++) x.cost(4, costBehind(k));
      x.hide(2, 1);
      x.cost(0, 9);
      x.above(3, 0);
      x.above(2, 0);
      x.hide(2, 0);
      int left = Math.min(24, ahead + 5);
      Held.due(x, left - 1, "undo");
      Held.due(x, 4, "count", 3);
      Held.due(x, left - 2, "undo");
      Held.due(x, 2, "type", 2, 0);
      Held.due(x, left - 3, "undo");
      Held.due(x, 1, "type", 3, 0);
      Held.due(x, 11, "type", 3, 1);
      Held.due(x, left - 4, "undo");
      Held.due(x, 2, "member", 0, 1);
      Held.due(x, left - 5, "undo");
      Held.due(x, 0, "count", 3);
      Held.due(x, ahead == 0 ? Held.STATE : left - 6, "undo");
    }
  }

  /** Acts and undoings in turn, so that what is kept goes round whatever it is kept in. */
  private static void actsAround() {
    Held.sentence("of more the oldest is forgotten");
    WantedTypes x = twelve();
    int[] costs = new int[200];
    costs[0] = 1;
    int now = 0;
    int kept = 0;
    for (int round = 0; round < 8; round++) {
      for (int k = 0; k < 13 + round; k++) {
        now++;
        costs[now] = costBehind(now + round);
        Held.due(x, costs[now - 1], "cost", 0, costs[now]);
        kept = Math.min(24, kept + 1);
      }
      for (int k = 0; k < 7; k++) {
        now--;
        kept--;
        Held.due(x, kept, "undo");
      }
    }
    while (kept > 0) {
      now--;
      kept--;
      Held.due(x, kept, "undo");
      Held.due(x, costs[now], "member", 0, 1);
    }
    Held.due(x, Held.STATE, "undo");
    Held.due(x, costs[now], "member", 0, 1);
  }

  private static void refusedIsNoAct() {
    Held.sentence("What is refused, or found, changes nothing but status().");
    WantedTypes x = five();
    for (int k = 0; k < 24; k++) x.cost(0, costBehind(k));
    Held.due(x, Held.BAD, "cost", 0, 10);
    Held.due(x, Held.BAD, "cost", 5, 1);
    Held.due(x, Held.BAD, "above", 3, 4);
    Held.due(x, Held.BAD, "above", 4, 0);
    Held.due(x, Held.STATE, "hide", 0, 0);
    Held.due(x, Held.BAD, "hide", 0, 2);
    Held.due(x, 24, "count", 4);
    for (int k = 23; k >= 0; k--) Held.due(x, k, "undo");
    Held.due(x, 2, "member", 0, 1);
  }

  private static void member() {
    Held.sentence("Of a MEMBER: 0 what it GIVES, 1 COST, 2 PRICE, 3 how many it TAKES, 4, 5 the first, the second (NONE),"
        + " 6 whether it is HIDDEN (1, 0). BAD.");
    Held.bounds(WorldBoundaryTest::five, 0, 0, 4, "member", 0, 0);
    Held.bounds(WorldBoundaryTest::twelve, 0, 0, 11, "member", 0, 0);
    Held.bounds(WorldBoundaryTest::five, 1, 0, 6, "member", 0, 0);
    int n = Held.NONE;
    int[][] all = {{1, 2, 2, 0, n, n, 0}, {3, 1, 3, 0, n, n, 1}, {0, 1, 3, 0, n, n, 0}, {2, 3, 3, 1, 1, n, 0},
        {0, 1, 3, 2, 2, 0, 1}};
    WantedTypes x = five();
    x.hide(1, 1);
    x.hide(4, 1);
    for (int m = 0; m < 5; m++) {
      for (int what = 0; what < 7; what++) Held.due(x, all[m][what], "member", m, what);
    }
    // 0 as a taken type is not none
    x = Held.of("w1;u0;c0,1,0;m0,1,0,0;");
    Held.due(x, 0, "member", 0, 4);
    Held.due(x, n, "member", 0, 5);
    Held.due(x, 0, "member", 1, 5);
    // what the same room held before does not shine through
    x = Held.of("w2;u0;u0;m1,1,1,1;");
    Held.tell(x, "w1;u0;l0,1;c0,1,0;");
    Held.due(x, n, "member", 0, 4);
    Held.due(x, n, "member", 0, 5);
    Held.due(x, n, "member", 1, 5);
  }

  private static void price() {
    Held.sentence("PRICE of a MEMBER: of a local, a call its COST; of a far one 2 more; of an old one three times COST;"
        + " of a maker 1 more for each TYPE that it TAKES.");
    WantedTypes x = Held.of("w1;u0;l0,1;f0,1;o0,1;c0,1,0;c0,1,0,0;m0,1,0;m0,1,0,0;");
    int[] least = {1, 3, 3, 1, 1, 2, 3};
    int[] most = {9, 11, 27, 9, 9, 10, 11};
    for (int m = 0; m < 7; m++) Held.due(x, least[m], "member", m, 2);
    for (int m = 0; m < 7; m++) x.cost(m, 9);
    for (int m = 0; m < 7; m++) Held.due(x, most[m], "member", m, 2);
    Held.tell(x, "w1;u0;l0,9;f0,9;o0,9;c0,9,0;c0,9,0,0;m0,9,0;m0,9,0,0;");
    for (int m = 0; m < 7; m++) Held.due(x, most[m], "member", m, 2);
  }

  private static void type() {
    Held.sentence("Of a TYPE: 0 the one right above it (itself: none), 1 TYPES (bits) of which it is, 2 TYPES that are of"
        + " it, 3 MEMBERS (bits, HIDDEN ones, too) that give one that is of it. BAD.");
    Held.bounds(WorldBoundaryTest::five, 0, 0, 3, "type", 0, 0);
    Held.bounds(WorldBoundaryTest::eight, 0, 0, 7, "type", 0, 0);
    Held.bounds(WorldBoundaryTest::five, 1, 0, 3, "type", 0, 0);
    WantedTypes x = twelve();
    Held.due(x, 4095, "type", 0, 3);
    for (int m = 0; m < 12; m++) x.hide(m, 1);
    Held.due(x, 4095, "type", 0, 3);
    x = Held.of("w2;u0;u1;l0,1;");
    Held.due(x, 0, "type", 1, 3);
    Held.due(x, 2, "type", 1, 2);
    Held.due(x, 1, "type", 0, 2);
  }

  private static void image() {
    Held.sentence("An IMAGE (0, 1) is kept of the WORLD: 1. BAD; STATE: no WORLD.");
    Held.bounds(WorldBoundaryTest::five, 0, 0, 1, "image", 0);
    Held.beyond(WantedTypes::new, 0, -1, Held.BAD, "image", 0);
    Held.beyond(WantedTypes::new, 0, 2, Held.BAD, "image", 0);
    for (int k = 0; k < 2; k++) Held.due(new WantedTypes(), Held.STATE, "image", k);
    WantedTypes x = five();
    x.hide(0, 1);
    Held.due(x, 1, "image", 0);
    Held.due(x, 1, "count", 4);
    Held.due(x, 0, "undo");
    Held.due(x, 1, "image", 1);
    Held.due(x, 1, "restore", 0);
    Held.due(x, 1, "count", 3);
    Held.due(x, 1, "restore", 1);
    Held.due(x, 0, "count", 3);
  }

  private static void restore() {
    Held.sentence("The WORLD is as an IMAGE kept it (no ACT can be undone then): 1. BAD; STATE: none was kept.");
    Held.bounds(WorldBoundaryTest::withImages, 0, 0, 1, "restore", 0);
    Held.beyond(WantedTypes::new, 0, -1, Held.BAD, "restore", 0);
    Held.beyond(WantedTypes::new, 0, 2, Held.BAD, "restore", 0);
    for (int k = 0; k < 2; k++) {
      Held.due(new WantedTypes(), Held.STATE, "restore", k);
      WantedTypes x = five();
      Held.due(x, Held.STATE, "restore", k);
      x.image(1 - k);
      x.hide(0, 1);
      Held.due(x, Held.STATE, "restore", k);
      Held.due(x, 1, "count", 4);
      Held.due(x, 1, "count", 3);
      Held.due(x, 1, "restore", 1 - k);
      Held.due(x, 0, "count", 4);
      Held.due(x, 0, "count", 3);
      Held.due(x, Held.STATE, "undo");
    }
    WantedTypes x = withImages();
    Held.due(x, 1, "restore", 0);
    Held.due(x, 24, "many", 0, 3);
    Held.tell(x, "w1;u0;");
    Held.due(x, 2, "count", 1);
    Held.due(x, 1, "restore", 1);
    Held.due(x, Held.BAD, "type", 1, 0);
    Held.due(x, 0, "many", 0, 3);
    Held.due(x, 1, "restore", 0);
    Held.due(x, 24, "many", 0, 3);
  }

  /** Of type 0, image 0 has 24 expressions of price 3, image 1 none. */
  private static WantedTypes withImages() {
    WantedTypes x = Held.of("w2;u0;u0;" + "l1,1;".repeat(2) + "c0,1,1,1;".repeat(6));
    x.image(0);
    Held.tell(x, "w1;u0;l0,1;");
    x.image(1);
    return x;
  }

  private static void count() {
    Held.sentence("How many: 0 ROWS, 1 TYPES, 2 MEMBERS, 3 HIDDEN (bits), 4 ACTS that can be undone, 5 bytes on the tape."
        + " BAD.");
    Held.bounds(WorldBoundaryTest::five, 0, 0, 5, "count", 0);
    Held.bounds(WantedTypes::new, 0, 0, 5, "count", 0);
    WantedTypes x = Held.of("w8;" + "u0;".repeat(8) + "l7,9;".repeat(12));
    for (int m = 0; m < 12; m++) {
      x.hide(m, 1);
      x.cost(m, 1);
      x.cost(m, 2);
    }
    for (int r = 0; r < 8; r++) x.row(r, 0, r * 5);
    for (int k = 0; k < 150; k++) x.feed(k);
    int[] most = {8, 8, 12, 4095, 24, 140};
    for (int what = 0; what < 6; what++) Held.due(x, most[what], "count", what);
  }
}
