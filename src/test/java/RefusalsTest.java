import java.util.ArrayList;
import java.util.LinkedHashMap;
import java.util.List;
import java.util.Map;

/**
 * Terms: which refusal comes first, by hand; then, over grids of numbers at and beyond every bound, that each call
 * answers as the slow model does, and that what is refused, or found, changes nothing but status().
 */
public final class RefusalsTest {
  private static final int MIN = Held.MIN, MAX = Held.MAX;
  private static final int PARTS = 4;
  private static final Map<String, int[][]> GRID = new LinkedHashMap<>();

  /** Calls that lead from a new object to a state, on the class or on the model. */
  private static final class Way {
    private final List<String> names = new ArrayList<>();
    private final List<int[]> numbers = new ArrayList<>();

    Way call(String name, int... a) {
      names.add(name);
      numbers.add(a);
      return this;
    }

    Way text(String text) {
      for (char letter : text.toCharArray()) call("feed", letter);
      return this;
    }

    WantedTypes walk() {
      WantedTypes x = new WantedTypes();
      for (int k = 0; k < names.size(); k++) Held.call(x, names.get(k), numbers.get(k));
      return x;
    }

    SlowModel model() {
      SlowModel x = new SlowModel();
      for (int k = 0; k < names.size(); k++) x.call(names.get(k), numbers.get(k));
      return x;
    }
  }

  public static void main(String[] args) {
    order();
    firstInTime();
    fillGrid();
    Held.sentence("What is refused, or found, changes nothing but status().");
    int[] sorts = new int[9];
    for (Way way : ways()) play(way, sorts);
    String[] told = {"answers", "BAD", "STATE", "FULL", "NULL", "PLACE", "KIND", "SIZE", "STORE"};
    for (int k = 0; k < told.length; k++) if (sorts[k] == 0) Held.fail("the grids never met " + told[k]);
    Held.end();
  }

  private static WantedTypes five() {
    return Held.of(Held.FIVE);
  }

  private static void order() {
    Held.sentence("the first of these that fits, but as told: BAD (a number is not as told; there is no such thing),"
        + " STATE (as told), FULL (as told), then FINDINGS");
    WantedTypes none = new WantedTypes();
    none.row(1, 0, 1);
    Held.due(none, Held.BAD, "word", 8, 0, 1, 0);
    Held.due(none, Held.BAD, "word", 0, 0, 0, 0);
    Held.due(none, Held.BAD, "word", 0, 0, 25, 0);
    Held.due(none, Held.BAD, "word", 0, 0, 1, 2);
    Held.due(none, Held.STATE, "word", 0, 0, 1, 0);
    Held.due(none, Held.STATE, "word", 1, 1, 1, 0);
    Held.due(none, Held.STATE, "word", 1, -1, 24, 1);
    Held.due(none, Held.BAD, "place", 0, 1, 1);
    Held.due(none, Held.BAD, "image", 2);
    Held.due(none, Held.BAD, "restore", -1);
    WantedTypes x = five();
    x.row(1, 0, 1);
    Held.due(x, Held.BAD, "word", 8, 5, 1, 0);
    Held.due(x, Held.BAD, "word", 0, 5, 25, 0);
    Held.due(x, Held.BAD, "word", 1, 5, 1, -1);
    Held.due(x, Held.BAD, "place", 4, 0, 1);
    Held.due(x, Held.BAD, "place", 0, 0, 25);
    Held.due(x, Held.BAD, "place", 0, 1, 0);
    Held.due(x, Held.BAD, "row", 8, 0, -1);
    Held.due(x, Held.BAD, "row", 0, -1, -1);
    Held.due(x, Held.BAD, "copy", 8, 0, 0, 0, 0);
    Held.due(x, Held.BAD, "copy", 0, 0, -1, 0, 0);
    Held.due(x, Held.BAD, "hide", 0, 2);
    Held.due(x, Held.BAD, "hide", 5, 0);
    Held.due(x, Held.BAD, "as", 0, 6);
    Held.due(x, Held.BAD, "as", 5, 5);
    for (int k = 0; k < 140; k++) x.feed(0);
    Held.due(x, Held.BAD, "feed", 256);
    Held.due(x, Held.BAD, "feed", -1);
    Held.due(x, Held.FULL, "feed", 255);
    WantedTypes empty = Held.of("w1;u0;c0,1,0;");
    Held.due(empty, Held.BAD, "drawn", 0, 61, 1, 0);
    Held.due(empty, Held.BAD, "drawn", 0, 1, 0, 0);
    Held.due(empty, Held.BAD, "drawn", 0, 1, 1, 2);
    Held.due(empty, Held.STATE, "drawn", 0, 1, 1, 0);
  }

  private static void firstInTime() {
    Held.sentence("of several the first in time: -1000010 less 1 NULL (a ROW that is missing), 2 PLACE (no such place of a"
        + " ROW), 3 KIND (a MEMBER that is not that), 4 SIZE (fewer than none), 5 STORE (ROWS of two LANES).");
    WantedTypes x = five();
    x.row(0, 0, 2);
    x.row(1, 1, 2);
    Held.due(x, -1000011, "set", 7, -1, 0);
    Held.due(x, -1000011, "word", 7, -1, 24, 0);
    Held.due(x, -1000011, "place", 0, 7, 24);
    Held.due(x, -1000011, "copy", 7, -1, 0, 9, 9);
    Held.due(x, -1000011, "copy", 1, -1, 7, 9, 9);
    Held.due(x, -1000015, "copy", 0, -1, 1, 0, 1);
    Held.due(x, -1000015, "copy", 0, 0, 1, 0, -1);
    Held.due(x, -1000015, "copy", 1, 0, 0, 1, 2);
    Held.due(x, -1000012, "copy", 0, 0, 0, 1, 2);
    Held.due(x, -1000013, "as", 0, 2);
    Held.due(x, -1000014, "row", 7, 2, -1);
  }

  private static void fillGrid() {
    int[] row = {MIN, -1, 0, 1, 2, 6, 7, 8, MAX};
    int[] fewRows = {-1, 0, 1, 2, 7, 8};
    int[] place = {MIN, -1, 0, 1, 2, 3, 39, 40, MAX};
    int[] fewPlaces = {MIN, -1, 0, 3, 4, 40, MAX};
    int[] type = {MIN, -1, 0, 1, 3, 4, 7, 8, MAX};
    int[] member = {MIN, -1, 0, 1, 4, 5, 11, 12, MAX};
    int[] length = {MIN, -1, 0, 1, 2, 24, 25, MAX};
    int[] either = {MIN, -1, 0, 1, 2, MAX};
    grid("row", row, new int[] {MIN, -1, 0, 1, 2, 3, MAX}, new int[] {MIN, -1, 0, 40, 41, MAX});
    grid("set", row, place, new int[] {MIN, 0, 5, 128, MAX});
    grid("copy", fewRows, fewPlaces, fewRows, fewPlaces, fewPlaces);
    grid("drop", row);
    grid("feed", new int[] {MIN, -1, 0, 'w', 255, 256, MAX});
    grid("fault");
    grid("hide", member, either);
    grid("cost", member, new int[] {MIN, -1, 0, 1, 9, 10, MAX});
    grid("above", type, type);
    grid("undo");
    grid("member", member, new int[] {MIN, -1, 0, 1, 2, 3, 4, 5, 6, 7, MAX});
    grid("type", type, new int[] {MIN, -1, 0, 1, 2, 3, 4, MAX});
    grid("many", type, new int[] {MIN, -1, 0, 1, 5, 24, 25, MAX});
    grid("cheapest", type);
    grid("listed", type, new int[] {MIN, -1, 0, 1, 999999998, 999999999, MAX}, new int[] {MIN, -2, -1, 0, 1, MAX});
    grid("word", row, place, length, either);
    grid("place", type, row, length);
    grid("had");
    grid("needed", type);
    grid("without", type, member);
    grid("share", member, new int[] {MIN, -1, 0, 1, 999, 1000, MAX});
    grid("drawn", type, new int[] {MIN, 0, 1, 60, 61, MAX}, new int[] {MIN, 0, 1, 999999, 1000000, MAX}, either);
    grid("image", either);
    grid("restore", either);
    grid("kind", member);
    grid("as", member, new int[] {MIN, -1, 0, 1, 2, 3, 4, 5, 6, MAX});
    grid("ask", member, either);
    grid("trace", new int[] {MIN, -1, 0, 1, 5, 6, 15, 16, MAX});
    grid("count", new int[] {MIN, -1, 0, 1, 2, 3, 4, 5, 6, MAX});
    grid("status");
  }

  private static void grid(String name, int[]... numbers) {
    GRID.put(name, numbers);
  }

  private static List<Way> ways() {
    List<Way> all = new ArrayList<>();
    all.add(new Way());
    Way full = new Way().text("w".repeat(3)).call("world").text("q".repeat(140));
    all.add(full.call("row", 0, 0, 4).call("row", 1, 1, 4).call("row", 2, 2, 40).call("copy", 0, 0, 1, 0, 1));
    Way acts = new Way().text(Held.FIVE).call("world").call("image", 0).call("hide", 3, 1).call("cost", 0, 9);
    acts.call("above", 3, 2).call("row", 0, 0, 4).call("row", 1, 0, 4).call("row", 2, 1, 40).call("set", 0, 1, 4);
    acts.call("set", 1, 0, 2).call("set", 2, 39, 2).call("ask", 1, 0).text("w1;").call("as", 0, 4);
    all.add(acts);
    Way most = new Way().text("w8;u0;u0;u1;u2;u3;u4;u5;u6;").text("l7,1;f6,2;o5,3;l4,4;c3,1,4;m2,2,3,3;");
    most.text("l7,1;f6,2;o5,3;l4,4;c3,1,4;m2,2,3,3;").call("world").call("image", 0);
    for (int m = 0; m < 12; m++) most.call("hide", m, 1).call("cost", m, 5);
    most.call("image", 1).call("undo").call("above", 7, 7);
    for (int r = 0; r < 8; r++) most.call("row", r, r % 3, r * 5);
    all.add(most.call("set", 3, 3, 7).call("ask", 5, 1).call("set", 7, 40, 0));
    Way listed = new Way().text("w2;u0;u0;l1,1;c0,1,0,1;m1,1,0;l0,2;").call("world").call("row", 0, 0, 4);
    all.add(listed.call("row", 1, 2, 40).call("set", 0, 2, 3).call("set", 1, 0, 2).call("drop", 6));
    return all;
  }

  private static void play(Way way, int[] sorts) {
    int[][] before = new int[PARTS][];
    for (int part = 0; part < PARTS; part++) before[part] = seen(way.walk(), part);
    for (String name : GRID.keySet()) {
      SlowModel model = way.model();
      for (int[] a : tuples(GRID.get(name))) {
        int want = model.call(name, a);
        sorts[sortOf(want)]++;
        if (sortOf(want) == 0) {
          Held.due(way.walk(), want, name, a);
          model = way.model();
        } else {
          refused(way, before, want, name, a);
        }
      }
    }
  }

  private static void refused(Way way, int[][] before, int want, String name, int[] a) {
    int found = want <= -1000011 ? -1000010 - want : -1;
    for (int part = 0; part < PARTS; part++) {
      WantedTypes x = way.walk();
      Held.due(x, want, name, a);
      int[] behind = seen(x, part);
      for (int k = 0; k < behind.length; k++) {
        int due = part == 0 && k == 0 && found > 0 ? found : before[part][k];
        Held.same(behind[k], due, "item " + k + " of part " + part + " behind " + Held.told(name, a));
      }
    }
  }

  /** 0: no refusal; then BAD, STATE, FULL, and the findings by their numbers. */
  private static int sortOf(int answer) {
    if (answer <= Held.BAD && answer >= Held.FULL) return Held.BAD + 1 - answer;
    return answer <= -1000011 && answer >= -1000015 ? -1000007 - answer : 0;
  }

  private static List<int[]> tuples(int[][] numbers) {
    List<int[]> all = new ArrayList<>();
    int many = 1;
    for (int[] some : numbers) many *= some.length;
    for (int k = 0; k < many; k++) {
      int[] tuple = new int[numbers.length];
      int left = k;
      for (int i = 0; i < tuple.length; i++) {
        tuple[i] = numbers[i][left % numbers[i].length];
        left /= numbers[i].length;
      }
      all.add(tuple);
    }
    return all;
  }

  /** All that can be seen of an object, in parts, each of which uses the object up. The first item is the status. */
  private static int[] seen(WantedTypes x, int part) {
    List<Integer> all = new ArrayList<>();
    switch (part) {
      case 0: seeState(x, all); break;
      case 1: seeRows(x, all); break;
      case 2: seeActsAndImages(x, all); break;
      default: seeLists(x, all); break;
    }
    return all.stream().mapToInt(Integer::intValue).toArray();
  }

  private static void seeState(WantedTypes x, List<Integer> all) {
    all.add(x.status());
    all.add(x.fault());
    for (int what = 0; what < 6; what++) all.add(x.count(what));
    for (int i = 0; i < 7; i++) all.add(x.trace(i));
    for (int m = 0; m < 12; m++) {
      all.add(x.kind(m));
      for (int what = 0; what < 7; what++) all.add(x.member(m, what));
    }
    for (int t = 0; t < 8; t++) for (int what = 0; what < 4; what++) all.add(x.type(t, what));
  }

  /** By a world in which the price of a member tells its number; a tape that was not empty would spoil its text. */
  private static void seeRows(WantedTypes x, List<Integer> all) {
    x.world();
    Held.tell(x, Held.TWELVE);
    for (int r = 0; r < 8; r++) {
      for (int i : new int[] {0, 1, 2, 3, 4, 20, 39}) all.add(x.word(r, i, 1, 1));
      all.add(x.set(r, 0, 0x12345678));
      all.add(x.drop(r));
    }
  }

  private static void seeActsAndImages(WantedTypes x, List<Integer> all) {
    for (int k = 0; k < 25; k++) {
      all.add(x.undo());
      all.add(x.count(3));
      all.add(x.member(k / 2, 1));
    }
    for (int t = 0; t < 8; t++) all.add(x.type(t, 1));
    for (int k = 0; k < 2; k++) {
      all.add(x.restore(k));
      for (int what = 1; what < 5; what++) all.add(x.count(what));
      for (int m = 0; m < 12; m++) all.add(x.member(m, 2));
      for (int t = 0; t < 8; t++) all.add(x.type(t, 0));
    }
    // what was left on the tape is told by where the text behind it goes wrong
    Held.feed(x, "l0,1;");
    all.add(x.world());
  }

  private static void seeLists(WantedTypes x, List<Integer> all) {
    for (int t = 0; t < 8; t++) {
      for (int p : new int[] {1, 2, 3, 6, 11, 24}) all.add(x.many(t, p));
      all.add(x.cheapest(t));
      all.add(x.listed(t, 1, 0));
      all.add(x.needed(t));
      all.add(x.drawn(t, 9, 77, 0));
    }
    all.add(x.had());
    for (int m = 0; m < 12; m++) all.add(x.share(m, 500));
  }
}
