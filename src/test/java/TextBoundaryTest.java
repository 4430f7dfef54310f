/** Part 1, TEXTS, and promises 6 to 8: the tape, each place of a text with every byte, each fault where it is. */
public final class TextBoundaryTest {
  private static final int WHOLE = 0, CANNOT_STAND = 1, NOT_AS_TOLD = 2, NO_ROOM = 3;
  /** Eight types, one above the other, and a member of each sort. */
  private static final String EIGHT = "w8;u0;u0;u1;u2;u3;u4;u5;u6;";
  private static final String ONE = "w1;u0;";

  public static void main(String[] args) {
    bytes();
    tape();
    longestText();
    everyByteEverywhere();
    twoFigures();
    threeFigures();
    howManyTypes();
    above();
    costsAndTypesOfMembers();
    oneAtLeast();
    takes();
    mostMembers();
    theEnd();
    firstToken();
    leastOfOneToken();
    worldThatIsRead();
    allStays();
    latestFault();
    Held.end();
  }

  /** Reads a text on a new object: how many members, or the fault at a place. */
  private static void read(String text, int fault, int membersOrPlace) {
    WantedTypes x = new WantedTypes();
    String told = "world() of " + text;
    Held.same(Held.tell(x, text), fault == WHOLE ? membersOrPlace : Held.FAULT - membersOrPlace, told);
    Held.same(x.fault(), fault, "fault() behind " + told);
    Held.same(x.count(5), 0, "count(5) behind " + told);
    Held.same(x.count(2), fault == WHOLE ? membersOrPlace : 0, "count(2) behind " + told);
  }

  private static void bytes() {
    Held.sentence("A byte (0 to 255) comes behind the tape: how many it has. BAD; FULL.");
    Held.bounds(WantedTypes::new, 0, 0, 255, "feed", 0);
    WantedTypes x = new WantedTypes();
    Held.due(x, Held.BAD, "feed", 256);
    Held.due(x, Held.BAD, "feed", -1);
    Held.due(x, 0, "count", 5);
    Held.due(x, 1, "feed", 255);
    Held.due(x, 2, "feed", 0);
  }

  private static void tape() {
    Held.sentence("THE TAPE has at most 140 bytes, that come one by one");
    WantedTypes x = new WantedTypes();
    for (int n = 1; n <= 140; n++) Held.due(x, n, "feed", 'w');
    Held.due(x, Held.FULL, "feed", 'w');
    Held.due(x, Held.FULL, "feed", 0);
    Held.due(x, Held.BAD, "feed", -1);
    Held.due(x, Held.BAD, "feed", 256);
    Held.due(x, 140, "count", 5);
    Held.due(x, Held.FAULT - 1, "world");
    Held.due(x, 0, "count", 5);
    for (int n = 1; n <= 140; n++) Held.due(x, n, "feed", 'u');
    Held.due(x, Held.FULL, "feed", 'u');
    Held.due(x, Held.FAULT, "world");
  }

  /** Eight types and twelve calls of two takes have 135 bytes: five numbers of two figures make 140. */
  private static void longestText() {
    String text = "w08;u00;u01;u2;u3;u4;u5;u6;u07;" + "c7,9,7,7;".repeat(11) + "m7,9,7,07;";
    Held.same(text.length(), 140, "how long the text is");
    read(text, WHOLE, 12);
    WantedTypes x = new WantedTypes();
    Held.feed(x, text);
    Held.due(x, Held.FULL, "feed", ';');
    Held.due(x, 12, "world");
    Held.due(x, 7, "member", 11, 5);
    read(text.substring(0, 139), CANNOT_STAND, 139);
    read(text.substring(0, 139) + ",", CANNOT_STAND, 139);
    // the end of a full tape is place 140
    read("w08;" + "u0;".repeat(8) + "c7,9,7,07;".repeat(11) + "m7", CANNOT_STAND, 140);
  }

  /** Behind a text that is right so far comes each of the 256 bytes, and then the end. */
  private static void everyByteEverywhere() {
    Held.sentence("TOKENS: letters a to z (each by itself), NUMBERS (figures, 2 at most), SIGNS , and ;"
        + " nothing else, no blanks.");
    signs("", "w");
    number("w", 1, 8);
    signs("w3", ";");
    signs("w03", ";");
    signs("w3;", "u");
    number("w3;u", 0, 0);
    signs("w3;u0", ";");
    number("w3;u0;u", 0, 1);
    number("w3;u0;u0;u", 0, 2);
    signs("w3;u0;u0;u0;", "lfocm");
    for (char sort : "lfocm".toCharArray()) {
      number("w3;u0;u0;u0;" + sort, 0, 2);
      signs("w3;u0;u0;u0;" + sort + "2", ",");
      number("w3;u0;u0;u0;" + sort + "2,", 1, 9);
    }
    for (char sort : "lfo".toCharArray()) wholeBehind("w3;u0;u0;u0;" + sort + "2,9");
    for (char sort : "cm".toCharArray()) {
      signs("w3;u0;u0;u0;" + sort + "2,9", ",");
      number("w3;u0;u0;u0;" + sort + "2,9,", 0, 2);
      signsOrWhole("w3;u0;u0;u0;" + sort + "2,9,2");
      number("w3;u0;u0;u0;" + sort + "2,9,2,", 0, 2);
      wholeBehind("w3;u0;u0;u0;" + sort + "2,9,2,2");
    }
    signs("w3;u0;u0;u0;l0,1;", "lfocm");
  }

  private static void signs(String text, String allowed) {
    for (int b = 0; b < 256; b++) {
      boolean more = isFigure(b) && endsWithFigure(text);
      if (more) continue;
      int at = allowed.indexOf(b) >= 0 ? text.length() + 1 : text.length();
      read(text + (char) b, CANNOT_STAND, at);
    }
  }

  private static void number(String text, int least, int most) {
    for (int b = 0; b < 256; b++) {
      boolean told = b - '0' >= least && b - '0' <= most;
      if (told) read(text + (char) b, CANNOT_STAND, text.length() + 1);
      else read(text + (char) b, isFigure(b) ? NOT_AS_TOLD : CANNOT_STAND, text.length());
    }
  }

  private static void wholeBehind(String text) {
    for (int b = 0; b < 256; b++) {
      if (isFigure(b)) continue;
      if (b == ';') read(text + (char) b, WHOLE, 1);
      else read(text + (char) b, CANNOT_STAND, text.length());
    }
  }

  private static void signsOrWhole(String text) {
    for (int b = 0; b < 256; b++) {
      if (isFigure(b)) continue;
      if (b == ';') read(text + (char) b, WHOLE, 1);
      else read(text + (char) b, CANNOT_STAND, b == ',' ? text.length() + 1 : text.length());
    }
  }

  private static boolean isFigure(int b) {
    return b >= '0' && b <= '9';
  }

  private static boolean endsWithFigure(String text) {
    return !text.isEmpty() && isFigure(text.charAt(text.length() - 1));
  }

  /** Each place of a number with all of two figures: what is ahead, least, most, what is behind. */
  private static void twoFigures() {
    Held.sentence("NUMBERS (figures, 2 at most)");
    for (int n = 0; n < 100; n++) {
      String two = "" + (char) ('0' + n / 10) + (char) ('0' + n % 10);
      told("w", two, n >= 1 && n <= 8, -1);
      told(EIGHT.substring(0, 25), two, n <= 7, -1);
      told("w1;u", two, n == 0, -1);
      told(EIGHT + "l", two, n <= 7, -1);
      told(EIGHT + "l7,", two, n >= 1 && n <= 9, 1);
      told(EIGHT + "c0,1,", two, n <= 7, 1);
      told(EIGHT + "m0,1,0,", two, n <= 7, 1);
      told(ONE + "m0,1,", two, n == 0, 1);
    }
  }

  /** Behind the number comes its sign ; and, where that makes it whole, so many members; else the end. */
  private static void told(String ahead, String number, boolean is, int members) {
    if (!is) read(ahead + number + ";", NOT_AS_TOLD, ahead.length());
    else if (members > 0) read(ahead + number + ";", WHOLE, members);
    else read(ahead + number, CANNOT_STAND, ahead.length() + 2);
  }

  private static void threeFigures() {
    Held.sentence("or is none (a run of three figures, at its first; the end: how many bytes there are)");
    String[] ahead = {"w", "w1;u", ONE + "l", ONE + "l0,", ONE + "c0,1,", ONE + "m0,1,0,", ONE, "", "w1", ONE + "l0"};
    for (String text : ahead) {
      int at = endsWithFigure(text) ? text.length() - 1 : text.length();
      String[] runs = endsWithFigure(text) ? new String[] {"00", "11", "999", "0000000"}
          : new String[] {"000", "001", "010", "111", "999", "0000", "000000001"};
      for (String run : runs) {
        read(text + run, CANNOT_STAND, at);
        read(text + run + ";", CANNOT_STAND, at);
        read(text + run + ",", CANNOT_STAND, at);
      }
    }
    read("w" + "0".repeat(139), CANNOT_STAND, 1);
    read("0".repeat(140), CANNOT_STAND, 0);
  }

  private static void howManyTypes() {
    Held.sentence("law: w TYPES ; (1 to 8).");
    for (int n = 1; n <= 8; n++) read("w" + n + ";", CANNOT_STAND, 3);
    Held.sentence("2 a NUMBER that is not as told");
    read("w0;", NOT_AS_TOLD, 1);
    read("w9;", NOT_AS_TOLD, 1);
    Held.sentence("type (as many as TYPES tells)");
    for (int n = 1; n <= 8; n++) {
      String types = "u0;".repeat(n);
      read("w" + n + ";" + types + "l0,1;", WHOLE, 1);
      read("w" + n + ";" + types.substring(3) + "l0,1;", CANNOT_STAND, 3 * n);
      read("w" + n + ";" + types + "u0;l0,1;", CANNOT_STAND, 3 + 3 * n);
      WantedTypes x = Held.of("w" + n + ";" + types + "l0,1;");
      Held.due(x, n, "count", 1);
      Held.answered(x, "type", n - 1, 0);
      Held.due(x, Held.BAD, "type", n, 0);
    }
  }

  private static void above() {
    Held.sentence("0 to its own number: the TYPE right above it, itself: none is");
    for (int t = 0; t < 8; t++) {
      String ahead = "w" + (t + 1) + ";" + "u0;".repeat(t) + "u";
      for (int up = 0; up <= t; up++) {
        WantedTypes x = Held.of(ahead + up + ";l0,1;");
        Held.due(x, up, "type", t, 0);
        Held.due(x, 1 << t | 1 << up | (up == t ? 0 : 1), "type", t, 1);
      }
      read(ahead + (t + 1) + ";l0,1;", NOT_AS_TOLD, ahead.length());
      read(ahead + "9;l0,1;", NOT_AS_TOLD, ahead.length());
    }
  }

  private static void costsAndTypesOfMembers() {
    Held.sentence("a TYPE; 1 to 9; TAKES, TYPES");
    for (char sort : "lfocm".toCharArray()) {
      String takes = sort == 'c' || sort == 'm' ? ",0;" : ";";
      for (int n = 1; n <= 8; n++) {
        String ahead = "w" + n + ";" + "u0;".repeat(n) + sort;
        read(ahead + "0,1" + takes, WHOLE, 1);
        read(ahead + (n - 1) + ",1" + takes, WHOLE, 1);
        read(ahead + n + ",1" + takes, NOT_AS_TOLD, ahead.length());
      }
      for (int cost = 0; cost <= 10; cost++) {
        boolean told = cost >= 1 && cost <= 9;
        read(ONE + sort + "0," + cost + takes, told ? WHOLE : NOT_AS_TOLD, told ? 1 : ONE.length() + 3);
      }
    }
  }

  private static void oneAtLeast() {
    Held.sentence("world: law type { type } member { member }.");
    read("", CANNOT_STAND, 0);
    read("w1;", CANNOT_STAND, 3);
    read("w1;l0,1;", CANNOT_STAND, 3);
    read("u0;l0,1;", CANNOT_STAND, 0);
    read("w1;u0;", CANNOT_STAND, 6);
    read("w1;u0;l0,1;", WHOLE, 1);
    read("w1;u0;l0,1;l0,1;", WHOLE, 2);
    read("w1;u0;l0,1;u0;", CANNOT_STAND, 11);
    read("w1;u0;l0,1;w1;", CANNOT_STAND, 11);
    read("w1;w1;u0;l0,1;", CANNOT_STAND, 3);
    Held.sentence("The tape, empty then, is read: how many MEMBERS there are.");
    WantedTypes x = Held.of("w1;u0;l0,1;");
    Held.due(x, 0, "count", 5);
    Held.due(x, Held.FAULT, "world");
    Held.due(x, 1, "count", 2);
    Held.feed(x, "w1;u0;l0,1");
    Held.due(x, Held.FAULT - 10, "world");
    Held.due(x, 0, "count", 5);
    Held.feed(x, ";");
    Held.due(x, Held.FAULT, "world");
  }

  private static void takes() {
    Held.sentence("none of a local, a far, an old one, 1 or 2 of a call, a maker");
    for (char sort : "lfo".toCharArray()) {
      read(ONE + sort + "0,1;", WHOLE, 1);
      read(ONE + sort + "0,1,0;", CANNOT_STAND, 10);
      Held.due(Held.of(ONE + sort + "0,1;"), 0, "member", 0, 3);
    }
    for (char sort : "cm".toCharArray()) {
      read(ONE + sort + "0,1;", CANNOT_STAND, 10);
      read(ONE + sort + "0,1,;", CANNOT_STAND, 11);
      read(ONE + sort + "0,1,0;", WHOLE, 1);
      read(ONE + sort + "0,1,0,;", CANNOT_STAND, 13);
      read(ONE + sort + "0,1,0,0;", WHOLE, 1);
      read(ONE + sort + "0,1,0,0,0;", CANNOT_STAND, 14);
      Held.due(Held.of(ONE + sort + "0,1,0;"), 1, "member", 0, 3);
      Held.due(Held.of(ONE + sort + "0,1,0,0;"), 2, "member", 0, 3);
      for (int n = 1; n <= 8; n++) {
        String ahead = "w" + n + ";" + "u0;".repeat(n) + sort + "0,1,";
        read(ahead + (n - 1) + ";", WHOLE, 1);
        read(ahead + n + ";", NOT_AS_TOLD, ahead.length());
        read(ahead + "0," + (n - 1) + ";", WHOLE, 1);
        read(ahead + "0," + n + ";", NOT_AS_TOLD, ahead.length() + 2);
      }
    }
  }

  private static void mostMembers() {
    Held.sentence("MEMBERS 0 .. 11, 12 at most");
    read(ONE, CANNOT_STAND, 6);
    for (int n = 1; n <= 12; n++) read(ONE + "l0,1;".repeat(n), WHOLE, n);
    Held.due(Held.of(Held.TWELVE), 0, "member", 11, 0);
    Held.due(Held.of(Held.TWELVE), Held.BAD, "member", 12, 0);
    Held.sentence("3 a member more than there is room for (its letter)");
    String twelve = ONE + "l0,1;".repeat(12);
    for (char sort : "lfocm".toCharArray()) {
      read(twelve + sort, NO_ROOM, 66);
      read(twelve + sort + "9,9", NO_ROOM, 66);
      read(twelve + sort + "0,1,0;", NO_ROOM, 66);
    }
    read(ONE + "l0,1;".repeat(14), NO_ROOM, 66);
    read(ONE + "c0,1,0,0;".repeat(13), NO_ROOM, 6 + 12 * 9);
  }

  private static void theEnd() {
    Held.sentence("the end: how many bytes there are");
    String text = "w03;u0;u1;u00;l2,1;f1,09;o0,3;c2,1,1;m02,4,0,2;";
    for (int n = 0; n < text.length(); n++) {
      String part = text.substring(0, n);
      int members = 0;
      for (char b : part.toCharArray()) members += b == ';' ? 1 : 0;
      boolean whole = members > 4 && part.endsWith(";");
      // a figure that is cut off may leave a number that is not as told: 0 of 03, 0 of 09
      if (part.equals("w0")) read(part, NOT_AS_TOLD, 1);
      else if (part.endsWith("f1,0")) read(part, NOT_AS_TOLD, n - 1);
      else read(part, whole ? WHOLE : CANNOT_STAND, whole ? members - 4 : n);
    }
    read(text, WHOLE, 5);
    read(text + ";", CANNOT_STAND, text.length());
    read(text + "\n", CANNOT_STAND, text.length());
    read(text + " ", CANNOT_STAND, text.length());
    read(text + "\0", CANNOT_STAND, text.length());
  }

  private static void firstToken() {
    Held.sentence("FAULTS, the first TOKEN that has one (its first byte), of one TOKEN the least");
    read("w9;u9;", NOT_AS_TOLD, 1);
    read("w1;u9;x", NOT_AS_TOLD, 4);
    read("w1;u09;x", NOT_AS_TOLD, 4);
    read("w1,u9;", CANNOT_STAND, 2);
    read(ONE + "l9,0;", NOT_AS_TOLD, 7);
    read(ONE + "l09,0;", NOT_AS_TOLD, 7);
    read(ONE + "l0,0,0;", NOT_AS_TOLD, 9);
    read(ONE + "l0,00,0;", NOT_AS_TOLD, 9);
    read(ONE + "c0,1,9,9;", NOT_AS_TOLD, 11);
    read(ONE + "c0,1,00,99;", NOT_AS_TOLD, 14);
    read(ONE + "l0,1;".repeat(11) + "l0,0;l0,1;", NOT_AS_TOLD, 64);
    read(ONE + "l0,1;".repeat(11) + "l0,1,l0,1;", CANNOT_STAND, 65);
  }

  private static void leastOfOneToken() {
    Held.sentence("1 it cannot stand there, or is none");
    read("w999;", CANNOT_STAND, 1);
    read(ONE + "l999,1;", CANNOT_STAND, 7);
    read(ONE + "9", CANNOT_STAND, 6);
    String twelve = ONE + "l0,1;".repeat(12);
    for (String odd : new String[] {"u", "w", "a", "x", "z", "0", "12", "123", ",", ";", " ", "L", "\0", "\u00ff"}) {
      read(twelve + odd, CANNOT_STAND, 66);
    }
  }

  private static void worldThatIsRead() {
    Held.sentence("A WORLD that is read stands in place of the one before (none at first): nothing is HIDDEN;"
        + " no ACT can be undone.");
    WantedTypes x = new WantedTypes();
    Held.due(x, Held.STATE, "had");
    Held.tell(x, Held.TWELVE);
    for (int m = 0; m < 12; m++) x.hide(m, 1);
    Held.due(x, 4095, "count", 3);
    Held.same(Held.tell(x, Held.FIVE), 5, "world()");
    Held.due(x, 4, "count", 1);
    Held.due(x, 5, "count", 2);
    Held.due(x, 0, "count", 3);
    Held.due(x, 0, "count", 4);
    Held.due(x, Held.STATE, "undo");
    Held.due(x, Held.BAD, "member", 5, 0);
    Held.due(x, Held.STATE, "hide", 0, 0);
    Held.same(Held.tell(x, "w1;u0;c0,1,0;"), 1, "world()");
    Held.due(x, Held.BAD, "type", 1, 0);
    Held.due(x, Held.BAD, "kind", 1);
    Held.due(x, 4, "kind", 0);
    Held.due(x, 0, "had");
  }

  private static void allStays() {
    Held.sentence("-1000100 less the place of a FAULT: all stays.");
    WantedTypes x = Held.of(Held.FIVE);
    x.hide(0, 1);
    x.cost(1, 9);
    x.above(3, 3);
    x.ask(0, 0);
    x.image(1);
    x.row(2, 1, 7);
    x.drop(3);
    String[] texts = {"", "w8;u0;u0;u3;", "w1;u0;l0,1;l0,", ONE + "l0,1;".repeat(13), "w1;u0;f0,9;x"};
    int[] places = {0, 10, 14, 66, 11};
    for (int k = 0; k < texts.length; k++) {
      Held.same(Held.tell(x, texts[k]), Held.FAULT - places[k], "world() of " + texts[k]);
      int[] counts = {1, 4, 5, 1, 3, 0};
      for (int what = 0; what < 6; what++) Held.due(x, counts[what], "count", what);
      Held.due(x, 1, "status");
      Held.due(x, 21, "trace", 2);
      Held.due(x, 11, "member", 1, 2);
      Held.due(x, 8, "type", 3, 1);
      Held.due(x, 1, "kind", 0);
    }
    Held.due(x, 2, "undo");
    Held.due(x, 7, "drop", 2);
    Held.due(x, 1, "restore", 1);
    Held.due(x, Held.STATE, "restore", 0);
  }

  private static void latestFault() {
    Held.sentence("The number of the latest FAULT; 0 before one.");
    WantedTypes x = new WantedTypes();
    Held.due(x, 0, "fault");
    Held.tell(x, ONE + "l0,1;");
    Held.due(x, 0, "fault");
    Held.tell(x, ONE + "l0,1;".repeat(13));
    Held.due(x, 3, "fault");
    Held.tell(x, ONE + "l0,0;");
    Held.due(x, 2, "fault");
    x.feed(256);
    Held.due(x, 2, "fault");
    Held.tell(x, ONE + "l0,1;");
    Held.due(x, 2, "fault");
    Held.due(x, Held.FAULT, "world");
    Held.due(x, 1, "fault");
  }
}
