import java.io.IOException;
import java.nio.file.Files;
import java.nio.file.Path;
import java.util.Arrays;
import java.util.List;
import java.util.regex.Matcher;
import java.util.regex.Pattern;
import java.util.stream.Collectors;
import java.util.stream.Stream;

/**
 * The document from its first line to its last: the sentences that name no boundary; that from "Terms" to promise 32
 * no words are left that no test quotes; and that what README.md shows is so.
 */
public final class DocumentTest {
  private static final int NONE = Held.NONE;
  private static final Path DOCUMENT = Path.of("..", "shared", "DOC.md");
  private static final Path SOURCE = Path.of("src", "main", "java", "WantedTypes.java");
  private static final Path README = Path.of("README.md");
  private static final Path TESTS = Path.of("src", "test", "java");
  /** A member of each sort, and one local more; no two numbers that an ask adds are the same. */
  private static final String ASKED = "w8;u0;u0;u0;u0;u0;u0;u0;u0;l5,3;f6,7;o7,8;c4,9,0;m3,2,0,1;l2,1;";

  public static void main(String[] args) throws IOException {
    face();
    lastCall();
    numbersFrom0();
    setsAreBits();
    rows();
    texts();
    sorts();
    expressions();
    codes();
    wholeList();
    hadNeededWithout();
    drawn();
    sizes();
    marks();
    bodiesThatBegin();
    latestActIsUndone();
    listedAndWords();
    partsOfTheInterface();
    everySentenceIsQuoted();
    readme();
    Held.end();
  }

  /** Each line of the document's face stands in the file, with the names of its numbers, and nothing else is public. */
  private static void face() throws IOException {
    Held.sentence("## The public face");
    Matcher block = Pattern.compile("(?s)```java\n(.*?)```").matcher(Files.readString(DOCUMENT));
    if (!block.find()) {
      Held.fail("the document has no face");
      return;
    }
    String source = Files.readString(SOURCE);
    int lines = 0;
    for (String line : block.group(1).split("\n")) {
      String told = line.strip();
      if (!told.startsWith("public")) continue;
      String due = told.contains("=") ? told : told.replaceAll(";$", " {");
      if (!source.contains(due)) Held.fail("the file has no " + due);
      lines++;
    }
    Held.same(source.split("\\bpublic\\b", -1).length - 1, lines, "how many are public");
    Held.same(lines, 34, "the class, its constants, a constructor and 31 calls");
    Held.same(WantedTypes.NONE, -1000000, "NONE");
    Held.same(WantedTypes.BAD, -1000001, "BAD");
    Held.same(WantedTypes.STATE, -1000002, "STATE");
    Held.same(WantedTypes.FULL, -1000003, "FULL");
  }

  private static void lastCall() {
    Held.sentence("An object is used for at most 512 calls after it has been made; what later calls answer is free.");
    String[] last = {"many", "listed", "drawn", "cheapest", "had", "row", "set", "world", "feed", "cost", "ask", "undo"};
    int[][] with = {{0, 23}, {0, 3, 1}, {0, 1, 1, 0}, {0}, {}, {1, 0, 40}, {0, 39, 7}, {}, {'w'}, {0, 2}, {1, 1}, {}};
    int[] due = {58786, 1, 21, 1, 1, 40, 7, Held.FAULT, 1, 1, 100, 23};
    for (int k = 0; k < last.length; k++) Held.due(behind511(), due[k], last[k], with[k]);
  }

  /** 20 bytes and their reading, a row and an item of it, and 488 acts that leave all as it was. */
  private static WantedTypes behind511() {
    WantedTypes x = Held.of("w1;u0;l0,1;c0,1,0,0;");
    x.row(0, 2, 40);
    x.set(0, 0, 1);
    for (int k = 0; k < 488; k++) x.hide(1, 1 - k % 2);
    return x;
  }

  private static void numbersFrom0() {
    Held.sentence("Numbers go from 0 on.");
    WantedTypes x = Held.of("w1;u0;l0,3;");
    Held.due(x, 1, "row", 0, 0, 1);
    Held.due(x, 0, "set", 0, 0, 0);
    Held.due(x, 0, "type", 0, 0);
    Held.due(x, 0, "member", 0, 0);
    Held.due(x, 0, "listed", 0, 0, 0);
    Held.due(x, 0, "place", 0, 0, 1);
    Held.due(x, 0, "as", 0, 0);
    Held.due(x, 1, "image", 0);
    Held.due(x, 3, "ask", 0, 0);
    Held.due(x, 11, "trace", 0);
  }

  private static void setsAreBits() {
    Held.sentence("Sets are bits.");
    WantedTypes x = Held.of("w4;u0;u0;u2;u1;l0,1;l3,1;l2,1;");
    Held.due(x, 1 << 0 | 1 << 1 | 1 << 3, "type", 3, 1);
    Held.due(x, 1 << 1 | 1 << 3, "type", 1, 2);
    Held.due(x, 1 << 0 | 1 << 1, "type", 0, 3);
    Held.due(x, 1 << 0 | 1 << 1 | 1 << 2 | 1 << 3, "had");
    Held.due(x, 1 << 2, "needed", 2);
    Held.due(x, 1 << 2, "hide", 2, 1);
    Held.due(x, 1 << 2 | 1 << 0, "hide", 0, 1);
    Held.due(x, 1 << 2 | 1 << 0, "count", 3);
    Held.sentence("Refusals are answers, the first of these that fits");
    Held.due(x, Held.BAD, "hide", 3, 1);
    Held.due(x, Held.STATE, "hide", 2, 1);
    Held.due(x, Held.NULL, "drop", 0);
  }

  private static void rows() {
    Held.sentence("ROWS 0 .. 7 are missing (at first), or have a LANE (0 bytes, 1 shorts, 2 ints) and 0 to 40 ITEMS,"
        + " 0 at first.");
    WantedTypes x = Held.of(Held.TWELVE);
    for (int r = 0; r < 8; r++) Held.due(x, Held.NULL, "word", r, 0, 1, 1);
    for (int r = 0; r < 8; r++) Held.due(x, 5 * r, "row", r, r % 3, 5 * r);
    for (int r = 1; r < 8; r++) Held.due(x, 1, "word", r, 5 * r - 1, 1, 1);
    int[] kept = {-128, -32640, 32896};
    for (int r = 1; r < 8; r++) Held.due(x, kept[r % 3], "set", r, 0, 32896);
    Held.sentence("ITEM i becomes v, its lowest bits, as many as the LANE has: what it is then.");
    Held.due(x, 1, "set", 3, 14, 257);
    Held.due(x, 257, "set", 4, 19, 257);
  }

  private static void texts() {
    Held.sentence("TEXTS: THE TAPE has at most 140 bytes, that come one by one;");
    WantedTypes x = new WantedTypes();
    Held.feed(x, "w4;u0;u0;u2");
    Held.due(x, 11, "count", 5);
    Held.due(x, 0, "count", 1);
    Held.feed(x, ";u1;l0,1;");
    Held.due(x, 1, "world");
    Held.sentence("type (as many as TYPES tells): u ABOVE ; (of TYPE 0, 1, .. in turn: 0 to its own number: the TYPE right"
        + " above it, itself: none is).");
    int[] above = {0, 0, 2, 1};
    int[] of = {1, 3, 4, 11};
    for (int t = 0; t < 4; t++) {
      Held.due(x, above[t], "type", t, 0);
      Held.due(x, of[t], "type", t, 1);
    }
    Held.due(x, 4, "count", 1);
    Held.sentence("A WORLD that is read stands in place of the one before (none at first): nothing is HIDDEN; no ACT can be"
        + " undone.");
    x.hide(0, 1);
    Held.same(Held.tell(x, "w2;u0;u1;l1,2;l0,3;"), 2, "world()");
    Held.due(x, 2, "count", 1);
    Held.due(x, 0, "count", 3);
    Held.due(x, 0, "count", 4);
    Held.due(x, Held.STATE, "undo");
    Held.due(x, 2, "cheapest", 1);
  }

  private static void sorts() {
    Held.sentence("member: SORT GIVES , COST { , TAKES } ; (SORT: l a local, f a far one, o an old one, c a call, m a maker;"
        + " a TYPE; 1 to 9; TAKES, TYPES: none of a local, a far, an old one, 1 or 2 of a call, a maker; MEMBERS 0 .. 11,"
        + " 12 at most).");
    WantedTypes x = Held.of("w4;u0;u0;u0;u0;m3,2,1,2;l1,4;c2,5,3;o0,6;f3,7;c1,8,0,3;m0,9,2;");
    int[][] told = {{3, 2, 4, 2, 1, 2}, {1, 4, 4, 0, NONE, NONE}, {2, 5, 5, 1, 3, NONE}, {0, 6, 18, 0, NONE, NONE},
        {3, 7, 9, 0, NONE, NONE}, {1, 8, 8, 2, 0, 3}, {0, 9, 10, 1, 2, NONE}};
    int[] kinds = {5, 1, 4, 3, 2, 4, 5};
    for (int m = 0; m < 7; m++) {
      for (int what = 0; what < 6; what++) Held.due(x, told[m][what], "member", m, what);
      Held.due(x, kinds[m], "kind", m);
      Held.due(x, 0, "member", m, 6);
    }
    Held.sentence("KINDS of MEMBERS: 0 MEMBER; 1 LOCAL, a MEMBER;");
    for (int m = 0; m < 7; m++) {
      Held.due(x, m, "as", m, 0);
      Held.due(x, kinds[m] <= 3 ? m : Held.KIND, "as", m, 1);
    }
  }

  /** All of a type's list by hand, each at its place, and none behind them. */
  private static void holds(WantedTypes x, int type, int[]... codes) {
    for (int place = 0; place < codes.length; place++) {
      int n = codes[place].length;
      for (int j = 0; j < n; j++) Held.due(x, codes[place][j], "listed", type, place, j);
      Held.due(x, NONE, "listed", type, place, n);
      Held.write(x, 7, codes[place]);
      Held.due(x, place, "place", type, 7, n);
    }
    Held.due(x, NONE, "listed", type, codes.length, -1);
  }

  private static void expressions() {
    Held.sentence("An EXPRESSION is a MEMBER that is not HIDDEN, and for each TYPE that this TAKES, in turn, an EXPRESSION"
        + " that is of that TYPE; it is of each TYPE of which the TYPE is that its MEMBER GIVES.");
    WantedTypes x = Held.of("w4;u0;u0;u1;u3;l2,1;l1,2;l3,4;c0,1,1,3;");
    holds(x, 0, new int[] {0}, new int[] {1}, new int[] {3, 0, 2}, new int[] {3, 1, 2});
    holds(x, 1, new int[] {0}, new int[] {1});
    holds(x, 2, new int[] {0});
    holds(x, 3, new int[] {2});
    Held.write(x, 0, 3, 2, 0);
    Held.due(x, NONE, "word", 0, 0, 3, 0);
    x.hide(0, 1);
    holds(x, 0, new int[] {1}, new int[] {3, 1, 2});
    holds(x, 2);
    x.above(2, 2);
    x.hide(0, 0);
    holds(x, 0, new int[] {1}, new int[] {3, 1, 2});
    holds(x, 2, new int[] {0});
    x.hide(2, 1);
    holds(x, 0, new int[] {1});
    holds(x, 3);
  }

  private static void codes() {
    Held.sentence("Its CODE: that MEMBER, then the CODES of those, one behind the other. Its PRICE: the PRICES of all"
        + " MEMBERS of its CODE (each as often as it is there), together.");
    WantedTypes x = Held.of("w2;u0;u1;l0,1;l1,1;c0,2,0,1;c1,3,1;");
    Held.write(x, 0, 2, 2, 0, 1, 3, 1);
    Held.due(x, 0, "word", 0, 0, 6, 0);
    Held.due(x, 2 + 2 + 1 + 1 + 3 + 1, "word", 0, 0, 6, 1);
    Held.due(x, 10, "listed", 0, x.place(0, 0, 6), -1);
    Held.due(x, 1, "word", 0, 4, 2, 0);
    Held.write(x, 0, 2, 3, 1, 2, 0, 1);
    Held.due(x, NONE, "word", 0, 0, 6, 0);
    Held.write(x, 0, 2, 0, 3, 3, 1);
    Held.due(x, 2 + 1 + 3 + 3 + 1, "word", 0, 0, 5, 1);
  }

  private static void wholeList() {
    Held.sentence("THE LIST of a TYPE: all EXPRESSIONS of it, by growing PRICE");
    WantedTypes x = Held.of("w2;u0;u0;l1,3;f0,2;c0,5,1;m1,4,0,1;");
    for (int t = 0; t < 2; t++) {
      int place = 0;
      for (int p = 1; p <= 24; p++) {
        int many = x.many(t, p);
        for (int k = 0; k < many; k++) Held.due(x, p, "listed", t, place++, -1);
      }
      Held.due(x, NONE, "listed", t, place, -1);
      Held.due(x, x.listed(t, 0, -1), "cheapest", t);
    }
  }

  /** What would be, told ahead, is what is, as soon as it is so. */
  private static void hadNeededWithout() {
    Held.sentence("NEEDED for a TYPE: MEMBERS (bits) each of which alone, HIDDEN, would let there be none of any PRICE");
    String[] texts = {Held.FIVE, "w4;u0;u0;u2;u3;l1,9;c2,9,2;c3,9,0,3;c3,9,1,1;", "w3;u0;u1;u2;l0,1;c1,1,0;c2,1,1,0;l2,9;"};
    for (String text : texts) {
      WantedTypes x = Held.of(text);
      int members = x.count(2);
      for (int t = 0; t < x.count(1); t++) {
        int needed = 0;
        for (int m = 0; m < members; m++) {
          int without = x.without(t, m);
          boolean had = (x.had() >> t & 1) != 0;
          x.hide(m, 1);
          if (had && (x.had() >> t & 1) == 0) needed |= 1 << m;
          Held.due(x, without, "cheapest", t);
          x.undo();
        }
        Held.due(x, needed, "needed", t);
      }
    }
    Held.sentence("HAD: TYPES (bits) of which there is an EXPRESSION of any PRICE (also above 24).");
    Held.due(Held.of(texts[1]), 11, "had");
    Held.sentence("WITHOUT a MEMBER: the PRICE of the first of THE LIST of a TYPE, were it HIDDEN; NONE.");
    WantedTypes x = Held.of(texts[2]);
    Held.due(x, 9, "without", 2, 1);
    Held.due(x, 4, "without", 2, 3);
    Held.due(x, NONE, "without", 1, 0);
  }

  /** The first ten numbers that 1 becomes are well known, so that no test has to work them out. */
  private static void drawn() {
    Held.sentence("each time X becomes the rest of (X times 16807) by 2147483647; the EXPRESSION of THE LIST whose place is"
        + " the rest of X by how many there are (of PRICE 24 or less; by 999999999, if there are more): what PRICE they have"
        + " together; how many MEMBERS their CODES have.");
    int[] known = {16807, 282475249, 1622650073, 984943658, 1144108930, 470211272, 101027544, 1457850878, 1458777923,
        2007237709};
    // place k has price k + 1; below 24 places, as many members
    String[] texts = {Held.TWELVE, "w1;u0;l0,1;c0,1,0;", "w1;u0;l0,1;c0,2,0;", "w1;u0;o0,8;o0,9;"};
    int[] sizes = {12, 24, 12, 1};
    for (int k = 0; k < texts.length; k++) {
      WantedTypes x = Held.of(texts[k]);
      int prices = 0;
      int members = 0;
      for (int n = 1; n <= known.length; n++) {
        int place = known[n - 1] % sizes[k];
        prices += new int[] {place + 1, place + 1, 2 * place + 1, 24}[k];
        members += k == 1 || k == 2 ? place + 1 : 1;
        Held.due(x, prices, "drawn", 0, n, 1, 0);
        Held.due(x, members, "drawn", 0, n, 1, 1);
      }
    }
    WantedTypes x = Held.of(Held.TWELVE);
    Held.due(x, 282475249 % 12 + 1, "drawn", 0, 1, 16807, 0);
  }

  private static void asked(String words, int what, int... due) {
    Held.sentence(words);
    WantedTypes x = Held.of(ASKED);
    for (int k = 0; k < due.length; k += 2) Held.due(x, due[k + 1], "ask", due[k], what);
  }

  private static void sizes() {
    Held.sentence("ASKS of MEMBERS, by BODIES, each of which leaves its number in THE TRACE as it begins (the first 16): 0"
        + " SIZE: 10 lent to all MEMBERS: COST.");
    WantedTypes x = Held.of(ASKED);
    for (int m = 0; m < 6; m++) {
      x.ask(m, 0);
      int found = 0;
      for (int i = 0; i < 6; i++) if (x.trace(i) == 10) found++;
      Held.same(found, 1, "how often body 10 begins in SIZE of " + m);
    }
    asked("11 of LOCALS: what 10 gives, and MARK.", 0, 0, 3 + 5, 2, 8 + 9 - 1000, 5, 1 + 7);
    asked("12 of FAR ones: 0 less what 11 gives.", 0, 1, -(7 + 14));
    asked("13 of CALLS: what 10 gives, less 100.", 0, 3, 9 - 100);
    asked("14 of MAKERS: what 13 gives, twice.", 0, 4, 2 * (2 - 100));
  }

  private static void marks() {
    Held.sentence("1 MARK: 20 lent to all MEMBERS: the number.");
    WantedTypes x = Held.of(ASKED);
    for (int m = 0; m < 6; m++) {
      x.ask(m, 1);
      int found = 0;
      for (int i = 0; i < 6; i++) if (x.trace(i) == 20) found++;
      Held.same(found, 1, "how often body 20 begins in MARK of " + m);
    }
    asked("21 of LOCALS: what 20 gives, and the TYPE that it GIVES.", 1, 0, 0 + 5, 5, 5 + 2);
    asked("22 of OLD ones: what 21 gives, less 1000.", 1, 2, 2 + 7 - 1000);
    asked("23 of CALLS: what 20 gives, less SIZE.", 1, 3, 3 + 91, 4, 4 + 196);
    asked("24 of FAR ones: what 21 gives, twice.", 1, 1, 2 * (1 + 6));
  }

  private static void bodiesThatBegin() {
    Held.sentence("By this it is asked.");
    Held.sentence("(Of an ask the BODY told for the KIND begins, else that of the nearest KIND that it is, too, else the one"
        + " that is lent; SIZE, MARK within others are asked of the same MEMBER anew.)");
    int[][] first = {{11, 21}, {12, 24}, {11, 22}, {13, 23}, {14, 23}, {11, 21}};
    // of SIZE the body of MARK that begins within it, of MARK that of SIZE; 0: none does
    int[][] within = {{21, 0}, {24, 0}, {22, 0}, {0, 13}, {0, 14}, {21, 0}};
    WantedTypes x = Held.of(ASKED);
    for (int m = 0; m < 6; m++) {
      for (int what = 0; what < 2; what++) {
        x.ask(m, what);
        Held.due(x, first[m][what], "trace", 0);
        Held.same(firstOther(x, what), within[m][what], "which body of the other ask begins first");
      }
    }
  }

  private static int firstOther(WantedTypes x, int what) {
    for (int i = 0; i < 16; i++) {
      int number = x.trace(i);
      if (number != NONE && number / 10 - 1 != what) return number;
    }
    return 0;
  }

  private static void latestActIsUndone() {
    Held.sentence("The latest ACT is undone: how many can be undone yet.");
    WantedTypes x = Held.of(Held.FIVE);
    x.cost(0, 5);
    x.above(1, 1);
    x.cost(0, 7);
    x.hide(0, 1);
    Held.due(x, 3, "undo");
    Held.due(x, 0, "member", 0, 6);
    Held.due(x, 7, "member", 0, 1);
    Held.due(x, 2, "undo");
    Held.due(x, 5, "member", 0, 1);
    Held.due(x, 1, "type", 1, 0);
    Held.due(x, 1, "undo");
    Held.due(x, 0, "type", 1, 0);
    Held.due(x, 0, "undo");
    Held.due(x, 2, "member", 0, 1);
  }

  private static void listedAndWords() {
    Held.sentence("Of the EXPRESSION at a place of THE LIST of a TYPE: its PRICE (j = -1), the j-th MEMBER of its CODE (0 on;"
        + " NONE: not so many); NONE: there is none at that place.");
    WantedTypes x = Held.of("w2;u0;u1;l1,4;l0,2;c0,3,1,0;");
    // 1; 2 0 1; 2 0 2 0 1; and at the price of 23: 2 0 2 0 2 0 1
    for (int place = 0; place < 4; place++) {
      Held.due(x, 2 + 7 * place, "listed", 0, place, -1);
      for (int j = 0; j <= 2 * place; j++) Held.due(x, j == 2 * place ? 1 : 2 - j % 2 * 2, "listed", 0, place, j);
      Held.due(x, NONE, "listed", 0, place, 2 * place + 1);
    }
    Held.due(x, NONE, "listed", 0, 4, -1);
    Held.due(x, NONE, "listed", 0, 4, 0);
    Held.sentence("Of a WORD, n ITEMS of a ROW from i on: the TYPE that its first MEMBER GIVES (what = 0), its PRICE (1);"
        + " NONE: it is not WHOLE.");
    Held.write(x, 0, 2, 0, 2, 0, 1);
    Held.due(x, 0, "word", 0, 2, 3, 0);
    Held.due(x, 9, "word", 0, 2, 3, 1);
    Held.due(x, 1, "word", 0, 3, 1, 0);
    Held.due(x, 4, "word", 0, 3, 1, 1);
    Held.due(x, NONE, "word", 0, 0, 3, 1);
    Held.sentence("The place of a WORD, n ITEMS of a ROW from 0 on, in THE LIST of a TYPE;");
    Held.due(x, 2, "place", 0, 0, 5);
    Held.due(x, NONE, "place", 1, 0, 5);
    Held.due(x, NONE, "place", 0, 0, 4);
  }

  private static void part(String words, String name, String... calls) throws IOException {
    Held.sentence(words);
    String source = Files.readString(SOURCE);
    int from = source.indexOf("// ---- " + name + "\n");
    int to = source.indexOf("// ---- ", from + 1);
    if (from < 0) Held.fail("no such part");
    for (String call : calls) {
      int at = source.indexOf("public int " + call + "(");
      if (at < from || to >= 0 && at > to) Held.fail(call + " is not in this part");
    }
  }

  private static void partsOfTheInterface() throws IOException {
    part("Ahead of the calls `row`, `set`, `copy`, `drop` the interface says: ---- rows.", "rows", "row", "set", "copy",
        "drop");
    part("Ahead of the calls `feed`, `world`, `fault`, `hide`, `cost`, `above`, `undo`, `member`, `type` the interface says:"
        + " ---- worlds, acts.", "worlds, acts", "feed", "world", "fault", "hide", "cost", "above", "undo", "member", "type");
    part("Ahead of the calls `many`, `cheapest`, `listed`, `word`, `place`, `had`, `needed`, `without`, `share`, `drawn`,"
        + " `image`, `restore` the interface says: ---- expressions.", "expressions", "many", "cheapest", "listed", "word",
        "place", "had", "needed", "without", "share", "drawn", "image", "restore");
    part("Ahead of the calls `kind`, `as`, `ask`, `trace`, `count`, `status` the interface says: ---- asked.", "asked",
        "kind", "as", "ask", "trace", "count", "status");
  }

  /** What is left of the promises when all that a test quotes, and all heads, are taken out. */
  private static void everySentenceIsQuoted() throws IOException {
    Held.sentence("## Terms");
    String document = Files.readString(DOCUMENT).replaceAll("```\\w*|={8} \\d", " ").replaceAll("\\s+", " ");
    int from = document.indexOf("## Terms");
    int to = document.indexOf("## Not promised");
    if (from < 0 || to < from) {
      Held.fail("the document has other heads");
      return;
    }
    String text = document.substring(from + "## Terms".length(), to);
    char[] left = text.toCharArray();
    for (String quote : quotes()) {
      for (int at = text.indexOf(quote); at >= 0; at = text.indexOf(quote, at + 1)) {
        Arrays.fill(left, at, at + quote.length(), '\0');
      }
    }
    String rest = new String(left).replaceAll("## Promise \\d+: [\\w ]+?(`[^`]*`:|(?=\u0000))", "\u0000");
    for (String piece : rest.split("\u0000+")) {
      if (piece.matches("(?s).*\\w.*")) Held.fail("no test quotes: " + piece.strip());
    }
  }

  private static List<String> quotes() throws IOException {
    Pattern call = Pattern.compile("(?:sentence|asked|part)\\(\\s*((?:\"[^\"]*\"\\s*\\+?\\s*)+)");
    try (Stream<Path> files = Files.list(TESTS)) {
      List<Path> sorted = files.filter(f -> f.toString().endsWith(".java")).sorted().collect(Collectors.toList());
      StringBuilder all = new StringBuilder();
      for (Path file : sorted) all.append(Files.readString(file));
      return call.matcher(all).results()
          .map(m -> m.group(1).replaceAll("\"\\s*\\+\\s*\"", "").replaceAll("^\"|\"\\s*$", ""))
          .filter(quote -> !quote.isEmpty()).collect(Collectors.toList());
    }
  }

  /** Each call that the page shows answers what it says behind it. */
  private static void readme() throws IOException {
    Held.sentence("What it is");
    String page = Files.readString(README);
    Matcher text = Pattern.compile("String text = \"([^\"]*)\"").matcher(page);
    if (!text.find()) {
      Held.fail("README.md shows no text");
      return;
    }
    WantedTypes x = new WantedTypes();
    Held.feed(x, text.group(1));
    Matcher calls = Pattern.compile("(?m)^x\\.(\\w+)\\(([^)]*)\\); *// (-?\\d+):").matcher(page);
    int shown = 0;
    while (calls.find()) {
      String numbers = calls.group(2).strip();
      int[] with = numbers.isEmpty() ? new int[0]
          : Stream.of(numbers.split(", *")).mapToInt(Integer::parseInt).toArray();
      Held.due(x, Integer.parseInt(calls.group(3)), calls.group(1), with);
      shown++;
    }
    if (shown < 20) Held.fail("README.md shows " + shown + " calls alone");
  }
}
