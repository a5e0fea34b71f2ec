/** Each sentence under "Terms" of the document that names a boundary case has a test of its own. */
public final class TermsTests {
  private static final int UNKNOWN = Check.UNKNOWN;
  private static final int BAD_VALUE = Check.BAD_VALUE;
  private static final int FULL = Check.FULL;
  private static final int NOT_POSSIBLE = Check.NOT_POSSIBLE;
  private static final int NONE = Check.NONE;

  private TermsTests() { }

  // ---- texts and patterns

  @Check.Sentence("There is a text of at most 120 characters")
  static void textOfAtMost120() {
    SlipSearch x = new SlipSearch();
    for (int length = 1; length <= 120; length++) {
      Check.due("write", x.write('a'), length);
      Check.due("count(0)", x.count(0), length);
    }
    Check.due("write of a 121st", x.write('a'), FULL);
    Check.due("count(0)", x.count(0), 120);
    Check.due("at(119)", x.at(119), 'a');
    Check.due("at(120)", x.at(120), UNKNOWN);
    Check.refused("write of a 121st", () -> Check.rich(120), y -> y.write('z'), FULL);
    Check.refused("writePad to 121", () -> Check.rich(117), y -> y.writePad(), FULL);
  }

  @Check.Sentence("each a letter from a to z, or a blank")
  static void eachALetterOrABlank() {
    SlipSearch x = null;
    for (int code = 0; code <= 65535; code++) {
      if (code % 128 == 0) x = new SlipSearch();
      boolean allowed = code >= 'a' && code <= 'z' || code == ' ';
      int length = x.count(0);
      Check.due("write of " + code, x.write((char) code), allowed ? length + 1 : BAD_VALUE);
      if (allowed) Check.due("at the end behind " + code, x.at(length), code);
    }
  }

  @Check.Sentence("it is empty at first (the text)")
  static void textIsEmptyAtFirst() {
    SlipSearch x = new SlipSearch();
    Check.due("count(0)", x.count(0), 0);
    Check.due("at(0)", x.at(0), UNKNOWN);
    Check.refused("cut(1)", SlipSearch::new, y -> y.cut(1), NOT_POSSIBLE);
  }

  @Check.Sentence("There are at most 6 patterns, numbered from 0")
  static void atMost6PatternsFrom0() {
    SlipSearch x = new SlipSearch();
    for (int number = 0; number < 6; number++) {
      Check.due("pattern " + number + " ahead of it", x.pattern(number, 0), UNKNOWN);
      Check.due("addPattern()", Check.add(x, "a".repeat(number + 1)), number);
      Check.due("count(1)", x.count(1), number + 1);
    }
    for (int number = 0; number < 6; number++) Check.due("pattern", x.pattern(number, 0), number + 1);
    Check.due("pattern(6, 0)", x.pattern(6, 0), UNKNOWN);
    Check.due("pattern(-1, 0)", x.pattern(-1, 0), UNKNOWN);
    Check.refused("addPattern() of a 7th", TermsTests::sixPatterns, y -> y.addPattern(), FULL);
  }

  private static SlipSearch sixPatterns() {
    SlipSearch x = Check.kept("ab ba", 2, "a", "^b", "..", "[ab]", "[-ab]", "_");
    Check.type(x, "xyz");
    return x;
  }

  @Check.Sentence("each of 1 to 60 places")
  static void patternsOf1To60Places() {
    for (int places = 1; places <= 60; places++) {
      SlipSearch x = new SlipSearch();
      Check.due("addPattern()", Check.add(x, "b".repeat(places - 1) + "z"), 0);
      Check.due("pattern(0, 0)", x.pattern(0, 0), places);
      Check.due("takes of the last place", x.takes(0, places - 1), 1 << 25);
      Check.due("takes behind the last place", x.takes(0, places), UNKNOWN);
    }
    SlipSearch bound = new SlipSearch();
    Check.due("addPattern()", Check.add(bound, "^" + "c".repeat(59)), 0);
    Check.due("places of a bound pattern", bound.pattern(0, 0), 59);
  }

  @Check.Sentence("A place takes some characters: one letter; a set of letters; a blank; or any of the letters and the blank")
  static void whatPlacesTake() {
    SlipSearch x = Check.searched("az m", 0, "a", "z", "[az]", "_", ".", "[-az]");
    int[][] fit = {{0}, {1}, {0, 1}, {2}, {0, 1, 2, 3}, {3}};
    for (int p = 0; p < fit.length; p++) {
      int next = 0;
      for (int place = 0; place < 4; place++) {
        boolean takes = next < fit[p].length && fit[p][next] == place;
        Check.due("slips(" + p + ", " + place + ", " + (place + 1) + ", 0)", x.slips(p, place, place + 1, 0), takes ? 0 : 1);
        if (takes) next++;
      }
    }
  }

  @Check.Sentence("A pattern may be bound to its beginning: then the found part has to begin at the beginning of the text, or behind a blank")
  static void boundPatternsBegin() {
    SlipSearch x = Check.searched("ab ab cab  ab", 0, "^ab", "ab", "^_ab");
    Check.dueEnds(x, 0, false, Check.end(2, 0, 0), Check.end(5, 0, 3), Check.end(13, 0, 11));
    Check.dueEnds(x, 1, false, Check.end(2, 0, 0), Check.end(5, 0, 3), Check.end(9, 0, 7), Check.end(13, 0, 11));
    // The blank itself stands behind a blank only once.
    Check.dueEnds(x, 2, false, Check.end(13, 0, 10));
    Check.dueEnds(Check.searched(" a", 0, "^_a"), 0, false, Check.end(2, 0, 0));
    Check.dueEnds(Check.searched("a", 0, "^a"), 0, false, Check.end(1, 0, 0));
    Check.dueEnds(Check.searched("ba", 0, "^a"), 0, false);
  }

  @Check.Sentence("behind a blank: an empty part at the end of a text too")
  static void boundPatternsBeginAtTheEndOfTheText() {
    SlipSearch x = Check.searched("b ", 1, "^a");
    Check.dueEnds(x, 0, false, Check.end(0, 1, 0), Check.end(1, 1, 0), Check.end(2, 1, 2));
    SlipSearch y = Check.searched("bb", 1, "^a");
    Check.dueEnds(y, 0, false, Check.end(0, 1, 0), Check.end(1, 1, 0));
  }

  @Check.Sentence("its own slips do not matter for that")
  static void boundPatternsMaySlipAtTheBeginning() {
    Check.dueEnds(Check.searched("xab", 1, "^ab"), 0, false, Check.end(3, 1, 0));
    Check.dueEnds(Check.searched("x b", 1, "^ab"), 0, false, Check.end(3, 1, 2));
    Check.dueEnds(Check.searched("x cab", 1, "^ab"), 0, false, Check.end(5, 1, 2));
    Check.dueEnds(Check.searched("x zb", 1, "^ab"), 0, false, Check.end(4, 1, 2));
  }

  // ---- slips

  @Check.Sentence("There are at most k slips (0 to 4; 1 at first)")
  static void slipsFrom0To4And1AtFirst() {
    SlipSearch x = new SlipSearch();
    Check.due("count(2) at first", x.count(2), 1);
    Check.add(x, "aaaa");
    Check.due("column(0, 1, 0) at first", x.column(0, 1, 0), 1);
    Check.due("column(0, 2, 0) at first", x.column(0, 2, 0), BAD_VALUE);
    int previous = 1;
    for (int slips : new int[] {0, 1, 2, 3, 4}) {
      Check.due("setSlips(" + slips + ")", x.setSlips(slips), slips == previous ? NONE : previous);
      previous = slips;
      Check.due("count(2)", x.count(2), slips);
      Check.due("pattern(0, 2)", x.pattern(0, 2), slips == 4 ? 1 : 0);
    }
    Check.refused("setSlips(5)", Check::rich, y -> y.setSlips(5), BAD_VALUE);
    Check.refused("setSlips(-1)", Check::rich, y -> y.setSlips(-1), BAD_VALUE);
  }

  @Check.Sentence("A part of the text (perhaps empty) fits a pattern with s slips")
  static void anEmptyPartFits() {
    SlipSearch x = Check.searched("ab", 1, "ab.");
    for (int place = 0; place <= 2; place++) Check.dueWay(x, place, place, 3, 0, 3, 0);
    SlipSearch none = Check.searched("", 1, "a");
    Check.dueWay(none, 0, 0, 1, 0, 1, 0);
    Check.dueEnds(none, 0, false, Check.end(0, 1, 0));
    Check.dueEnds(none, 0, true, Check.end(0, 1, 0));
  }

  @Check.Sentence("made of characters that the places take, one for each place in their order")
  static void placesInTheirOrder() {
    SlipSearch x = Check.searched("abc", 4, "abc", "acb", "..c", "a.");
    int[] slips = {0, 2, 0, 1};
    for (int p = 0; p < slips.length; p++) Check.due("slips(" + p + ", 0, 3, 0)", x.slips(p, 0, 3, 0), slips[p]);
  }

  @Check.Sentence("a slip puts one character in, leaves one place out, or exchanges a character")
  static void kindsOfSlips() {
    Check.dueWay(Check.searched("axb", 1, "ab"), 0, 3, 1, 1, 0, 0);
    Check.dueWay(Check.searched("ab", 1, "axb"), 0, 2, 1, 0, 1, 0);
    Check.dueWay(Check.searched("ayb", 1, "axb"), 0, 3, 1, 0, 0, 1);
    String[] texts = {"axb", "ab", "ayb"};
    String[] patterns = {"ab", "axb", "axb"};
    for (int i = 0; i < 3; i++) {
      SlipSearch x = Check.searched("q" + texts[i] + "q", 1, patterns[i]);
      int end = 1 + texts[i].length();
      Check.due("the column at the end", x.column(0, 1, end) >> patterns[i].length() - 1, 1);
      x.setSlips(0);
      Check.due("ends without slips", x.pattern(0, 2), 0);
    }
  }

  @Check.Sentence("one stands for a place that does not take it")
  static void anExchangeIsOfACharacterThatIsNotTaken() {
    SlipSearch x = Check.searched("a z", 0, "...", "[az]_[-a]");
    for (int p = 0; p < 2; p++) {
      for (int what = 0; what < 4; what++) Check.due("slips", x.slips(p, 0, 3, what), 0);
    }
    Check.dueWay(Check.searched("aaa", 0, "_[-a][bz]"), 0, 3, 3, 0, 0, 3);
  }

  @Check.Sentence("A pattern ends at the place e of the text (e from 0 to its length: behind so many characters)")
  static void endsFrom0ToTheLength() {
    SlipSearch x = Check.searched("ab", 1, "a", "b", "q");
    Check.dueEnds(x, 0, false, Check.end(0, 1, 0), Check.end(1, 0, 0), Check.end(2, 1, 2));
    Check.dueEnds(x, 1, false, Check.end(0, 1, 0), Check.end(1, 1, 1), Check.end(2, 0, 1));
    Check.dueEnds(x, 2, false, Check.end(0, 1, 0), Check.end(1, 1, 1), Check.end(2, 1, 2));
    SlipSearch full = Check.searched("ab".repeat(60), 1, ".");
    Check.due("ends in a full text", full.pattern(0, 2), 121);
    Check.due("the first end", full.end(0, 0, false, 0), 0);
    Check.due("the last end", full.end(0, 120, false, 0), 120);
    Check.due("an end behind the last", full.end(0, 121, false, 0), NONE);
  }

  @Check.Sentence("if the part from b to e fits it with s slips for some b, 0 to e")
  static void beginningsFrom0ToE() {
    SlipSearch x = Check.searched("abcd", 0, "abcd", "bcd", "d");
    Check.dueEnds(x, 0, false, Check.end(4, 0, 0));
    Check.dueEnds(x, 1, false, Check.end(4, 0, 1));
    Check.dueEnds(x, 2, false, Check.end(4, 0, 3));
    SlipSearch e = Check.searched("xyz", 1, "d");
    Check.dueEnds(e, 0, false, Check.end(0, 1, 0), Check.end(1, 1, 1), Check.end(2, 1, 2), Check.end(3, 1, 3));
    SlipSearch far = Check.searched("a".repeat(60) + "b" + "a".repeat(59), 0, "b" + "a".repeat(59));
    Check.dueEnds(far, 0, false, Check.end(120, 0, 60));
  }

  @Check.Sentence("and with no fewer for any b")
  static void noFewerForAnyB() {
    SlipSearch x = Check.searched("ab", 4, "ab");
    Check.dueEnds(x, 0, false, Check.end(0, 2, 0), Check.end(1, 1, 0), Check.end(2, 0, 0));
    SlipSearch bound = Check.searched("cab", 4, "^ab");
    Check.due("the slips of the last end of a bound pattern", bound.end(0, 3, false, 1), 1);
  }

  @Check.Sentence("and s is at most k")
  static void atMostKSlips() {
    SlipSearch x = Check.searched("xx", 0, "abc", "aaaa", "aaaaa");
    int[][] ends = {{0, 0, 0, 3, 3}, {0, 0, 0, 0, 3}, {0, 0, 0, 0, 0}};
    for (int slips = 0; slips <= 4; slips++) {
      x.setSlips(slips);
      for (int p = 0; p < 3; p++) Check.due("ends of " + p + " with " + slips, x.pattern(p, 2), ends[p][slips]);
    }
    Check.due("slips of an end", x.end(0, 0, false, 1), 3);
    Check.due("slips of an end", x.end(1, 2, false, 1), 4);
  }

  @Check.Sentence("The beginning of an end is the greatest such b for its number of slips")
  static void theGreatestBeginning() {
    SlipSearch x = Check.searched("aab", 1, "ab");
    Check.dueEnds(x, 0, false, Check.end(1, 1, 0), Check.end(2, 1, 1), Check.end(3, 0, 1));
    // A greater b with more slips is none.
    x.setSlips(2);
    Check.dueEnds(x, 0, false, Check.end(0, 2, 0), Check.end(1, 1, 0), Check.end(2, 1, 1), Check.end(3, 0, 1));
    SlipSearch bound = Check.searched("aa b", 3, "^ab");
    Check.dueEnds(bound, 0, false, Check.end(0, 2, 0), Check.end(1, 1, 0), Check.end(2, 1, 0), Check.end(3, 2, 3),
        Check.end(4, 1, 3));
    // Ahead of the text there is nothing that a place could take.
    Check.dueEnds(Check.searched("bxa", 2, "_ba"), 0, false, Check.end(1, 2, 0), Check.end(2, 2, 0), Check.end(3, 2, 2));
    // The part that begins behind the blank needs 3 slips.
    Check.dueEnds(Check.searched("ba ", 2, "^a_a"), 0, false, Check.end(2, 2, 0), Check.end(3, 2, 0));
  }

  @Check.Sentence("Ends that stand alone are chosen from the left on: the first end, and then each time the next end whose beginning is not ahead of the end that was chosen before")
  static void endsThatStandAlone() {
    SlipSearch x = Check.searched("aaaaa", 0, "aaa", "aa", "a", "b");
    Check.dueEnds(x, 0, true, Check.end(3, 0, 0));
    Check.dueEnds(x, 1, true, Check.end(2, 0, 0), Check.end(4, 0, 2));
    Check.due("ends that stand alone, of one place", x.pattern(2, 3), 5);
    Check.dueEnds(x, 3, true);
    // The first end is chosen though a later one that overlaps it has fewer slips.
    SlipSearch y = Check.searched("ab", 1, "ab");
    Check.dueEnds(y, 0, true, Check.end(1, 1, 0));
    // Overlapping an end that was not chosen hinders none.
    SlipSearch z = Check.searched("ababababa", 0, "aba");
    Check.dueEnds(z, 0, true, Check.end(3, 0, 0), Check.end(7, 0, 4));
  }

  @Check.Sentence("a beginning at just that place does not overlap")
  static void beginningsAtThePlaceOfTheEnd() {
    Check.dueEnds(Check.searched("abab", 0, "ab"), 0, true, Check.end(2, 0, 0), Check.end(4, 0, 2));
    Check.dueEnds(Check.searched("a", 1, "a"), 0, true, Check.end(0, 1, 0), Check.end(1, 0, 0));
    Check.due("one ahead of it does", Check.searched("aba", 0, "aba", ".b.").pattern(1, 3), 1);
    Check.dueEnds(Check.searched("ababa", 0, "aba"), 0, true, Check.end(3, 0, 0));
  }

  @Check.Sentence("of an empty part neither")
  static void emptyPartsStandAlone() {
    SlipSearch x = Check.searched("bb", 1, "a");
    Check.dueEnds(x, 0, true, Check.end(0, 1, 0), Check.end(1, 1, 1), Check.end(2, 1, 2));
    SlipSearch y = Check.searched("ba", 1, "a");
    Check.dueEnds(y, 0, true, Check.end(0, 1, 0), Check.end(1, 1, 1), Check.end(2, 0, 1));
  }

  // ---- columns

  @Check.Sentence("For a pattern of m places there is, for each number of slips j from 0 to k, and each e, a column of m bits")
  static void columnsOfMBits() {
    SlipSearch x = Check.searched("aa", 4, "a", "aaa", "a".repeat(60));
    int[] places = {1, 3, 60};
    for (int p = 0; p < 3; p++) {
      long all = (1L << places[p]) - 1;
      for (int j = 0; j <= 4; j++) {
        for (int e = 0; e <= 2; e++) {
          long want = all & (1L << e + j) - 1;
          Check.due("column(" + p + ", " + j + ", " + e + ")", x.column(p, j, e), want);
        }
      }
      Check.due("a column beyond k", x.column(p, 5, 0), BAD_VALUE);
      Check.due("a column beyond the text", x.column(p, 0, 3), BAD_VALUE);
    }
  }

  @Check.Sentence("the bit i (0 to m - 1) tells whether the first i + 1 places fit some part that ends at e with at most j slips")
  static void bitsOfColumns() {
    SlipSearch x = Check.searched("xab", 2, "abc");
    long[][] want = {{0, 0, 1, 2}, {1, 1, 3, 7}, {3, 3, 7, 7}};
    for (int j = 0; j <= 2; j++) {
      for (int e = 0; e <= 3; e++) Check.due("column(0, " + j + ", " + e + ")", x.column(0, j, e), want[j][e]);
    }
    SlipSearch wide = Check.searched("b" + "a".repeat(59), 0, "b" + "a".repeat(59));
    for (int e = 1; e <= 60; e++) Check.due("column(0, 0, " + e + ")", wide.column(0, 0, e), 1L << e - 1);
  }

  @Check.Sentence("(and begins where it may)")
  static void columnsOfBoundPatterns() {
    SlipSearch x = Check.searched("ba ab", 1, "^ab", "ab");
    long[][] bound = {{0, 0, 0, 0, 1, 2}, {1, 3, 1, 1, 3, 3}};
    long[][] free = {{0, 0, 1, 0, 1, 2}, {1, 3, 3, 3, 3, 3}};
    for (int j = 0; j < 2; j++) {
      for (int e = 0; e <= 5; e++) {
        Check.due("bound column " + j + " at " + e, x.column(0, j, e), bound[j][e]);
        Check.due("free column " + j + " at " + e, x.column(1, j, e), free[j][e]);
      }
    }
  }

  // ---- reading patterns

  @Check.Sentence("There is a pad of at most 60 characters, empty at first")
  static void padOfAtMost60() {
    SlipSearch x = new SlipSearch();
    Check.due("count(7) at first", x.count(7), 0);
    Check.due("clearPad() at first", x.clearPad(), 0);
    Check.due("writePad() at first", x.writePad(), BAD_VALUE);
    Check.due("addPattern() at first", x.addPattern(), -100);
    for (int length = 1; length <= 60; length++) {
      Check.due("type", x.type((char) ('a' + length % 26)), length);
      Check.due("count(7)", x.count(7), length);
    }
    Check.due("type of a 61st", x.type('q'), FULL);
    Check.due("writePad()", x.writePad(), 60);
    for (int place = 0; place < 60; place++) Check.due("at", x.at(place), 'a' + (place + 1) % 26);
    Check.refused("type of a 61st", TermsTests::fullPad, y -> y.type('q'), FULL);
  }

  private static SlipSearch fullPad() {
    SlipSearch x = Check.rich();
    Check.type(x, "abcdef".repeat(10));
    return x;
  }

  @Check.Sentence("A pattern in the pad is, perhaps, \"^\" (it is bound), and then one or more places")
  static void padsOfPatterns() {
    String[] pads = {"a", "^a", ".", "^.", "_", "^_", "[a]", "^[a]", "[-a]", "^[-a]", "ab", "^a._[a][-a]z"};
    int[] places = {1, 1, 1, 1, 1, 1, 1, 1, 1, 1, 2, 6};
    for (int i = 0; i < pads.length; i++) {
      SlipSearch x = Check.searched("", 1, pads[i]);
      Check.due("places of " + pads[i], x.pattern(0, 0), places[i]);
      Check.due("whether bound is " + pads[i], x.pattern(0, 1), pads[i].charAt(0) == '^' ? 1 : 0);
    }
    Check.refused("addPattern() of a second ^", () -> padded("^^"), y -> y.addPattern(), -101);
    Check.refused("addPattern() of a late ^", () -> padded("a^"), y -> y.addPattern(), -101);
  }

  private static SlipSearch padded(String pad) {
    SlipSearch x = Check.rich();
    Check.type(x, pad);
    return x;
  }

  @Check.Sentence("a letter; \".\" (a wild place); \"_\" (a blank)")
  static void placesOfOneCharacter() {
    for (char c = 'a'; c <= 'z'; c++) {
      Check.due("takes of " + c, Check.searched("", 1, "" + c).takes(0, 0), 1 << c - 'a');
    }
    Check.due("takes of .", Check.searched("", 1, ".").takes(0, 0), (1 << 27) - 1);
    Check.due("takes of _", Check.searched("", 1, "_").takes(0, 0), 1 << 26);
  }

  @Check.Sentence("\"[\", letters that rise, one or more, and \"]\" (a set of letters)")
  static void sets() {
    String all = "abcdefghijklmnopqrstuvwxyz";
    Check.due("takes of one", Check.searched("", 1, "[m]").takes(0, 0), 1 << 12);
    Check.due("takes of two", Check.searched("", 1, "[az]").takes(0, 0), 1 | 1 << 25);
    Check.due("takes of neighbours", Check.searched("", 1, "[ab]").takes(0, 0), 3);
    Check.due("takes of all", Check.searched("", 1, "[" + all + "]").takes(0, 0), (1 << 26) - 1);
    Check.refused("addPattern() of a set of none", () -> padded("[]"), y -> y.addPattern(), -101);
    Check.refused("addPattern() of letters that stay", () -> padded("[mm]"), y -> y.addPattern(), -102);
    Check.refused("addPattern() of letters that fall", () -> padded("[ml]"), y -> y.addPattern(), -102);
    Check.refused("addPattern() of letters that fall late", () -> padded("[amzb]"), y -> y.addPattern(), -104);
    Check.due("sets begin anew", Check.searched("", 1, "[z][a][-z][-a]").pattern(0, 0), 4);
  }

  @Check.Sentence("\"[\", \"-\", letters that rise, one or more, and \"]\" (all letters but these, and no blank)")
  static void setsOfAllBut() {
    int all = (1 << 26) - 1;
    String letters = "abcdefghijklmnopqrstuvwxyz";
    Check.due("takes of all but a", Check.searched("", 1, "[-a]").takes(0, 0), all - 1);
    Check.due("takes of all but z", Check.searched("", 1, "[-z]").takes(0, 0), all - (1 << 25));
    Check.due("takes of all but a and z", Check.searched("", 1, "[-az]").takes(0, 0), all - 1 - (1 << 25));
    Check.due("takes of z alone", Check.searched("", 1, "[-" + letters.substring(0, 25) + "]").takes(0, 0), 1 << 25);
    Check.due("takes of none", Check.searched("", 1, "[-" + letters + "]").takes(0, 0), 0);
    Check.refused("addPattern() of all but none", () -> padded("[-]"), y -> y.addPattern(), -102);
    Check.refused("addPattern() of letters that stay", () -> padded("[-mm]"), y -> y.addPattern(), -103);
    Check.refused("addPattern() of letters that fall", () -> padded("[-ml]"), y -> y.addPattern(), -103);
    Check.due("a set behind it is of these letters", Check.searched("", 1, "[-a][a]").takes(0, 1), 1);
  }

  @Check.Sentence("The fault of the pad is the index, from 0, of the first character that is not allowed at its place")
  static void faultsOfEachCharacterAtEachPlace() {
    String letters = "abcdefghijklmnopqrstuvwxyz";
    String places = letters + "._";
    dueFaults("", places, "^[");
    dueFaults("^", places, "[");
    dueFaults("a", places, "[");
    dueFaults("^_", places, "[");
    dueFaults("[m]", places, "[");
    dueFaults("[", "", letters + "-");
    dueFaults("[-", "", letters);
    dueFaults("[a", "]", letters.substring(1));
    dueFaults("[m", "]", letters.substring(13));
    dueFaults("[-m", "]", letters.substring(13));
    dueFaults("[amz", "]", "");
    dueFaults("^a[z][-z", "]", "");
  }

  /** Each character behind a start: those that end a pattern, those that need more behind them, and the faults. */
  private static void dueFaults(String start, String ending, String going) {
    for (int code = 0; code < 600; code++) {
      char c = (char) (code < 300 ? code : code < 400 ? code - 300 + 65436 : (code - 400) * 256 + code % 128);
      int fault = going.indexOf(c) >= 0 ? start.length() + 1 : start.length();
      int want = ending.indexOf(c) >= 0 ? 0 : -100 - fault;
      Check.due("addPattern() of " + start + " and " + (int) c, Check.add(new SlipSearch(), start + c), want);
    }
  }

  @Check.Sentence("the first character that is not allowed: later ones do not matter")
  static void theFirstFault() {
    Check.refused("addPattern()", () -> padded("a^]["), y -> y.addPattern(), -101);
    Check.refused("addPattern()", () -> padded("A"), y -> y.addPattern(), -100);
    Check.refused("addPattern()", () -> padded("[ab^"), y -> y.addPattern(), -103);
    Check.refused("addPattern()", () -> padded("a".repeat(59) + "]"), y -> y.addPattern(), -159);
  }

  @Check.Sentence("or the length of the pad if it ends too early")
  static void padsThatEndTooEarly() {
    String[] pads = {"[", "[-", "[a", "[-a", "[ab", "^[", "a[", "[a][b", "^abc[-xy"};
    for (String pad : pads) {
      Check.refused("addPattern() of " + pad, () -> padded(pad), y -> y.addPattern(), -100 - pad.length());
    }
    String full = "a".repeat(58) + "[b";
    Check.refused("addPattern() of a full pad", () -> padded(full), y -> y.addPattern(), -160);
  }

  @Check.Sentence("(the empty pad, and \"^\" alone, do)")
  static void theEmptyPadAndTheBoundAlone() {
    Check.refused("addPattern() of the empty pad", () -> padded(""), y -> y.addPattern(), -100);
    Check.refused("addPattern() of ^", () -> padded("^"), y -> y.addPattern(), -101);
  }

  // ---- history

  @Check.Sentence("A history of at most 4 states is kept")
  static void historyOfAtMost4() {
    SlipSearch x = new SlipSearch();
    Check.due("count(6) at first", x.count(6), 0);
    for (int acts = 1; acts <= 12; acts++) {
      x.write('a');
      Check.due("count(6) after " + acts, x.count(6), Math.min(acts, 4));
    }
  }

  @Check.Sentence("when one more is recorded, the oldest one is dropped")
  static void theOldestStateIsDropped() {
    for (int acts = 1; acts <= 12; acts++) {
      SlipSearch x = new SlipSearch();
      for (int act = 0; act < acts; act++) x.write((char) ('a' + act));
      int kept = Math.min(acts, 4);
      for (int left = kept - 1; left >= 0; left--) {
        Check.due("undo()", x.undo(), left);
        Check.dueText(x, "abcdefghijkl".substring(0, acts - kept + left));
      }
      Check.due("undo() of the dropped one", x.undo(), NONE);
      Check.dueText(x, "abcdefghijkl".substring(0, acts - kept));
    }
  }

  @Check.Sentence("undo() removes and restores the latest one")
  static void undoOfTheLatest() {
    SlipSearch x = Check.text("ab");
    x.cut(1);
    x.write('c');
    x.undo();
    Check.dueText(x, "a");
    x.write('d');
    Check.dueText(x, "ad");
    x.undo();
    Check.dueText(x, "a");
    x.undo();
    Check.dueText(x, "ab");
    // The dropped state does not come back when a state is recorded in its room.
    Check.due("count(6)", x.count(6), 1);
    for (int act = 0; act < 5; act++) x.write('e');
    for (int left = 3; left >= 0; left--) Check.due("undo()", x.undo(), left);
    Check.dueText(x, "abe");
  }

  @Check.Sentence("Each call of a method that is described as an act, and returns no error and not NONE, records the state that was before it")
  static void actsAreRecorded() {
    dueRecorded("write", x -> x.write('z'));
    dueRecorded("writePad", x -> x.writePad());
    dueRecorded("cut", x -> x.cut(5));
    dueRecorded("replace", x -> x.replace(1, 'z'));
    dueRecorded("addPattern", x -> x.addPattern());
    dueRecorded("removePattern", x -> x.removePattern(0));
    dueRecorded("setSlips", x -> x.setSlips(4));
    dueRecorded("restore", x -> x.restore());
  }

  private static void dueRecorded(String name, Check.Call act) {
    SlipSearch x = Check.rich();
    x.undo();
    x.undo();
    String earlier = Check.state(x);
    x.setSlips(1);
    String before = Check.state(x);
    Check.due(name + " answers an error", act.on(x) < 0 ? 1 : 0, 0);
    Check.due(name + " leaves the state", Check.state(x).equals(before) ? 1 : 0, 0);
    Check.due("count(6) after " + name, x.count(6), 4);
    Check.due("undo() of " + name, x.undo(), 3);
    Check.dueSame("the state after undo() of " + name, Check.state(x), before);
    x.undo();
    Check.dueSame("the state two acts ahead of " + name, Check.state(x), earlier);
  }

  @Check.Sentence("that is described as an act: no other method records")
  static void othersAreNotRecorded() {
    SlipSearch x = Check.rich();
    x.undo();
    Check.due("count(6)", x.count(6), 3);
    x.type('a');
    x.clearPad();
    x.keep();
    Check.due("count(6)", x.count(6), 3);
    x.undo();
    Check.due("count(6)", x.count(6), 2);
    Check.Call[] asked = {y -> y.at(0), y -> y.pattern(0, 2), y -> y.pattern(0, 3), y -> y.pattern(0, 4), y -> y.pattern(0, 5),
        y -> y.takes(0, 0), y -> y.end(0, 0, false, 2), y -> y.end(0, 0, true, 2), y -> y.column(0, 2, 3),
        y -> y.slips(0, 0, 2, 0), y -> (long) y.density(0), y -> y.densityBits(0), y -> y.count(3), y -> y.count(4)};
    for (int i = 0; i < asked.length; i++) Check.changesNothing("the asking call " + i, Check::rich, asked[i]);
  }

  @Check.Sentence("There is one snapshot, empty at first")
  static void oneSnapshotEmptyAtFirst() {
    Check.refused("restore()", SlipSearch::new, y -> y.restore(), NONE);
    Check.refused("restore()", TermsTests::withoutSnapshot, y -> y.restore(), NONE);
    SlipSearch x = Check.text("a");
    x.keep();
    x.write('b');
    x.keep();
    x.write('c');
    Check.due("restore()", x.restore(), 2);
    Check.due("restore() again", x.restore(), 2);
    Check.dueText(x, "ab");
  }

  private static SlipSearch withoutSnapshot() {
    SlipSearch x = Check.searched("ab a", 2, "^a", "b");
    Check.type(x, "xyz");
    return x;
  }

  @Check.Sentence("A state is everything but the pad, the history and the snapshot (undo)")
  static void undoBringsBackAllButPadHistoryAndSnapshot() {
    SlipSearch x = Check.rich();
    String before = Check.state(x);
    x.cut(4);
    Check.add(x, "b");
    x.setSlips(0);
    x.removePattern(0);
    x.keep();
    String kept = Check.state(x);
    for (int left = 3; left >= 0; left--) Check.due("undo()", x.undo(), left);
    Check.dueSame("the state after undo()", Check.state(x), before);
    Check.due("count(7)", x.count(7), 1);
    Check.due("restore() of the later snapshot", x.restore(), 1);
    Check.dueSame("the state after restore()", Check.state(x), kept);
  }

  @Check.Sentence("A state is everything but the pad, the history and the snapshot (restore)")
  static void restoreBringsBackAllButPadHistoryAndSnapshot() {
    SlipSearch x = Check.rich();
    x.keep();
    String kept = Check.state(x);
    x.undo();
    x.undo();
    x.setSlips(0);
    String before = Check.state(x);
    Check.type(x, "q");
    Check.due("restore()", x.restore(), 5);
    Check.dueSame("the state after restore()", Check.state(x), kept);
    Check.due("count(6)", x.count(6), 4);
    Check.due("count(7)", x.count(7), 1);
    Check.due("undo()", x.undo(), 3);
    Check.dueSame("the state after undo() of restore()", Check.state(x), before);
    Check.due("restore() again", x.restore(), 5);
    Check.dueSame("the state after restore() again", Check.state(x), kept);
  }

  /** A state that has no room left: the first and the last character and pattern are of their own. */
  private static SlipSearch fullest() {
    return Check.searched("x" + "ab".repeat(59) + "y", 4, "x", "b", "b", "b", "b", "^y[-cd].");
  }

  /** Changes the first and the last character and pattern. */
  private static void changeFullest(SlipSearch x) {
    x.cut(120);
    for (int part = 0; part < 2; part++) {
      Check.type(x, "q".repeat(60));
      x.writePad();
    }
    x.removePattern(5);
    x.removePattern(0);
    Check.add(x, "_");
    Check.add(x, "z");
  }

  @Check.Sentence("A state is everything but the pad, the history and the snapshot: of 120 characters and 6 patterns (undo)")
  static void undoBringsBackTheFullestState() {
    SlipSearch x = fullest();
    String before = Check.state(x);
    x.cut(1);
    x.write('q');
    x.removePattern(5);
    Check.add(x, "q");
    for (int left = 3; left >= 0; left--) Check.due("undo()", x.undo(), left);
    Check.dueSame("the state after undo()", Check.state(x), before);
  }

  @Check.Sentence("A state is everything but the pad, the history and the snapshot: of 120 characters and 6 patterns (restore)")
  static void restoreBringsBackTheFullestState() {
    SlipSearch x = fullest();
    String kept = Check.state(x);
    x.keep();
    changeFullest(x);
    String before = Check.state(x);
    Check.due("restore()", x.restore(), 120);
    Check.dueSame("the state after restore()", Check.state(x), kept);
    x.undo();
    Check.dueSame("the state after undo() of restore()", Check.state(x), before);
  }

  // ---- errors

  @Check.Sentence("UNKNOWN = -1, BAD_VALUE = -2, FULL = -3, NOT_POSSIBLE = -4, NONE = -5")
  static void constants() {
    Check.due("UNKNOWN", SlipSearch.UNKNOWN, -1);
    Check.due("BAD_VALUE", SlipSearch.BAD_VALUE, -2);
    Check.due("FULL", SlipSearch.FULL, -3);
    Check.due("NOT_POSSIBLE", SlipSearch.NOT_POSSIBLE, -4);
    Check.due("NONE", SlipSearch.NONE, -5);
  }

  @Check.Sentence("Where several errors can apply, the order of the @return line is the order of the checks")
  static void theOrderOfTheChecks() {
    Check.Making full = () -> Check.rich(120);
    Check.refused("write", full, x -> x.write('A'), BAD_VALUE);
    Check.refused("writePad", () -> fullAndPadded("a."), x -> x.writePad(), BAD_VALUE);
    Check.refused("writePad", () -> fullAndPadded(""), x -> x.writePad(), BAD_VALUE);
    Check.refused("cut", () -> Check.rich(119), x -> x.cut(121), BAD_VALUE);
    Check.refused("replace", full, x -> x.replace(9, 'A'), UNKNOWN);
    Check.refused("replace", TermsTests::fullOfParts, x -> x.replace(0, 'A'), BAD_VALUE);
    Check.refused("addPattern", TermsTests::sixPatternsAndAFault, x -> x.addPattern(), -101);
    Check.refused("pattern", full, x -> x.pattern(9, 9), UNKNOWN);
    Check.refused("end", full, x -> x.end(9, -1, true, 9), UNKNOWN);
    Check.refused("column", full, x -> x.column(9, 9, 999), UNKNOWN);
    Check.refused("slips", full, x -> x.slips(9, -1, 999, 9), UNKNOWN);
  }

  private static SlipSearch fullAndPadded(String pad) {
    SlipSearch x = Check.rich(120);
    Check.type(x, pad);
    return x;
  }

  private static SlipSearch fullOfParts() {
    SlipSearch x = Check.rich(120);
    x.removePattern(0);
    Check.add(x, "q");
    return x;
  }

  private static SlipSearch sixPatternsAndAFault() {
    SlipSearch x = sixPatterns();
    Check.type(x, "a^");
    return x;
  }

  @Check.Sentence("NONE is no error; it is returned only if no error applies")
  static void noneBehindAllErrors() {
    Check.Making none = () -> Check.kept("xyz", 0, "ab", "x");
    Check.refused("replace by A without an end", none, x -> x.replace(0, 'A'), BAD_VALUE);
    Check.refused("replace without an end", none, x -> x.replace(0, 'a'), NONE);
    Check.refused("end of a wrong what without an end", none, x -> x.end(0, 0, false, 3), BAD_VALUE);
    Check.refused("end of a wrong rank without an end", none, x -> x.end(0, -1, false, 0), BAD_VALUE);
    Check.refused("end of a wrong what behind the last", none, x -> x.end(1, 1, true, -1), BAD_VALUE);
    Check.refused("end behind the last", none, x -> x.end(1, 1, true, 0), NONE);
  }

  @Check.Sentence("A call that returns an error or NONE changes nothing")
  static void refusedCallsChangeNothing() {
    for (int number : Check.NEVER) {
      Check.refused("cut", Check::rich, x -> x.cut(number), BAD_VALUE);
      Check.refused("replace", Check::rich, x -> x.replace(number, 'a'), UNKNOWN);
      Check.refused("removePattern", Check::rich, x -> x.removePattern(number), UNKNOWN);
      Check.refused("setSlips", Check::rich, x -> x.setSlips(number), BAD_VALUE);
      Check.refused("at", Check::rich, x -> x.at(number), UNKNOWN);
      Check.refused("pattern", Check::rich, x -> x.pattern(number, 0), UNKNOWN);
      Check.refused("pattern", Check::rich, x -> x.pattern(0, number), BAD_VALUE);
      Check.refused("takes", Check::rich, x -> x.takes(number, 0), UNKNOWN);
      Check.refused("takes", Check::rich, x -> x.takes(0, number), UNKNOWN);
      Check.refused("end", Check::rich, x -> x.end(number, 0, true, 0), UNKNOWN);
      Check.refused("end", Check::rich, x -> x.end(0, number, true, 0), number < 0 ? BAD_VALUE : NONE);
      Check.refused("end", Check::rich, x -> x.end(0, 0, true, number), BAD_VALUE);
      Check.refused("column", Check::rich, x -> x.column(number, 0, 0), UNKNOWN);
      Check.refused("column", Check::rich, x -> x.column(0, number, 0), BAD_VALUE);
      Check.refused("column", Check::rich, x -> x.column(0, 0, number), BAD_VALUE);
      Check.refused("slips", Check::rich, x -> x.slips(number, 0, 0, 0), UNKNOWN);
      Check.refused("slips", Check::rich, x -> x.slips(0, number, number, 0), BAD_VALUE);
      Check.refused("slips", Check::rich, x -> x.slips(0, 0, number, 0), BAD_VALUE);
      Check.refused("slips", Check::rich, x -> x.slips(0, 0, 0, number), BAD_VALUE);
      Check.refused("density", Check::rich, x -> (long) x.density(number), -1);
      Check.refused("densityBits", Check::rich, x -> x.densityBits(number), UNKNOWN);
      Check.refused("count", Check::rich, x -> x.count(number), BAD_VALUE);
    }
  }

  @Check.Sentence("An object is used for at most 512 calls after it has been made")
  static void objectsServe512Calls() {
    SlipSearch x = new SlipSearch();
    for (int pair = 0; pair < 170; pair++) {
      Check.due("write", x.write('a'), 1);
      Check.due("cut", x.cut(1), 0);
      Check.due("count(6)", x.count(6), pair == 0 ? 2 : 4);
    }
    Check.due("undo(), the 511th call", x.undo(), 3);
    Check.due("at, the 512th call", x.at(0), 'a');
  }

  public static void main(String[] args) throws ReflectiveOperationException {
    Check.runAll(TermsTests.class);
  }
}
