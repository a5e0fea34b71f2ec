/** For each promise of the document ordinary inputs, the edges that it names, and wrong inputs. */
public final class PromiseTests {
  private static int wrong = 0;
  private static int promise = 0;

  private static void due(String call, long got, long want) {
    if (got != want) {
      wrong++;
      System.out.println("promise " + promise + ": " + call + " answered " + got + ", due is " + want);
    }
  }

  private static void dueDouble(String call, double got, double want) {
    if (got != want) {
      wrong++;
      System.out.println("promise " + promise + ": " + call + " answered " + got + ", due is " + want);
    }
  }

  private static void type(SlipSearch x, String typed) {
    x.clearPad();
    for (char c : typed.toCharArray()) x.type(c);
  }

  private static SlipSearch withText(String text) {
    SlipSearch x = new SlipSearch();
    for (char c : text.toCharArray()) due("write '" + c + "'", x.write(c), x.count(0));
    return x;
  }

  private static int add(SlipSearch x, String pattern) {
    type(x, pattern);
    return x.addPattern();
  }

  private static SlipSearch withTextAndPattern(String text, String pattern) {
    SlipSearch x = withText(text);
    due("addPattern() of " + pattern, add(x, pattern), 0);
    return x;
  }

  private static void dueText(String when, SlipSearch x, String want) {
    StringBuilder got = new StringBuilder();
    for (int place = 0; place < x.count(0); place++) got.append((char) x.at(place));
    if (!got.toString().equals(want)) {
      wrong++;
      System.out.println("promise " + promise + ": " + when + " the text is \"" + got + "\", due is \"" + want + "\"");
    }
  }

  private static SlipSearch withFullText() {
    SlipSearch x = new SlipSearch();
    type(x, "a".repeat(60));
    x.writePad();
    due("writePad()", x.writePad(), 120);
    return x;
  }

  private static void aNewObject() {
    promise = 1;
    SlipSearch x = new SlipSearch();
    int[] counts = {0, 0, 1, 0, 0, 0, 0, 0, SlipSearch.BAD_VALUE};
    for (int what = 0; what < counts.length; what++) due("count(" + what + ")", x.count(what), counts[what]);
    due("at(0)", x.at(0), SlipSearch.UNKNOWN);
    due("pattern(0, 0)", x.pattern(0, 0), SlipSearch.UNKNOWN);
    due("undo()", x.undo(), SlipSearch.NONE);
    due("restore()", x.restore(), SlipSearch.NONE);
    due("UNKNOWN", SlipSearch.UNKNOWN, -1);
    due("BAD_VALUE", SlipSearch.BAD_VALUE, -2);
    due("FULL", SlipSearch.FULL, -3);
    due("NOT_POSSIBLE", SlipSearch.NOT_POSSIBLE, -4);
    due("NONE", SlipSearch.NONE, -5);
    SlipSearch other = withText("ab");
    due("count(0) of another object", x.count(0), 0);
    due("count(0)", other.count(0), 2);
  }

  private static void write() {
    promise = 2;
    SlipSearch x = new SlipSearch();
    due("write a", x.write('a'), 1);
    due("write z", x.write('z'), 2);
    due("write blank", x.write(' '), 3);
    dueText("after three characters", x, "az ");
    for (char c : new char[] {'`', '{', 'A', 'Z', '_', '.', '0', '\t', (char) 0, (char) 255, '\uffff'}) {
      due("write " + (int) c, x.write(c), SlipSearch.BAD_VALUE);
    }
    due("count(0)", x.count(0), 3);
    due("count(6)", x.count(6), 3);
    SlipSearch full = withFullText();
    due("write beyond 120", full.write('a'), SlipSearch.FULL);
    due("write a wrong one beyond 120", full.write('A'), SlipSearch.BAD_VALUE);
    due("count(6)", full.count(6), 2);
    full.cut(1);
    due("write the 120th", full.write(' '), 120);
    due("at(119)", full.at(119), 32);
  }

  private static void writePad() {
    promise = 3;
    SlipSearch x = new SlipSearch();
    due("writePad() of an empty pad", x.writePad(), SlipSearch.BAD_VALUE);
    type(x, "_ab_z_");
    due("writePad()", x.writePad(), 6);
    dueText("after writePad()", x, " ab z ");
    due("writePad() again", x.writePad(), 12);
    dueText("after writePad() again", x, " ab z  ab z ");
    due("count(7)", x.count(7), 6);
    due("count(6)", x.count(6), 2);
    for (String bad : new String[] {"ab.", "^a", "[a]", "a-", "A", "a b", " ", "\u00e9"}) {
      type(x, bad);
      due("writePad() of " + bad, x.writePad(), SlipSearch.BAD_VALUE);
    }
    due("count(6)", x.count(6), 2);
    SlipSearch full = withFullText();
    type(full, "b");
    due("writePad() beyond 120", full.writePad(), SlipSearch.FULL);
    full.type('.');
    due("writePad() of a wrong pad beyond 120", full.writePad(), SlipSearch.BAD_VALUE);
    full.cut(2);
    type(full, "bcd");
    due("writePad() of one too many", full.writePad(), SlipSearch.FULL);
    type(full, "bc");
    due("writePad() of as many as there is room for", full.writePad(), 120);
  }

  private static void cut() {
    promise = 4;
    SlipSearch x = withText("abcde");
    due("cut(2)", x.cut(2), 3);
    dueText("after cut(2)", x, "abc");
    due("cut(0)", x.cut(0), SlipSearch.BAD_VALUE);
    due("cut(-1)", x.cut(-1), SlipSearch.BAD_VALUE);
    due("cut(121)", x.cut(121), SlipSearch.BAD_VALUE);
    due("cut(max)", x.cut(Integer.MAX_VALUE), SlipSearch.BAD_VALUE);
    due("cut(min)", x.cut(Integer.MIN_VALUE), SlipSearch.BAD_VALUE);
    due("cut(4)", x.cut(4), SlipSearch.NOT_POSSIBLE);
    due("cut(120)", x.cut(120), SlipSearch.NOT_POSSIBLE);
    due("cut(3)", x.cut(3), 0);
    due("cut(1)", x.cut(1), SlipSearch.NOT_POSSIBLE);
    due("undo()", x.undo(), 3);
    dueText("after undo()", x, "abc");
    due("cut(120) of 120", withFullText().cut(120), 0);
  }

  private static void replace() {
    promise = 5;
    SlipSearch x = withTextAndPattern("xanayana anana", "ana");
    x.setSlips(0);
    due("replace(1)", x.replace(1, 'q'), SlipSearch.UNKNOWN);
    due("replace(-1) by a wrong letter", x.replace(-1, 'Q'), SlipSearch.UNKNOWN);
    due("replace by Q", x.replace(0, 'Q'), SlipSearch.BAD_VALUE);
    due("replace by a blank", x.replace(0, ' '), SlipSearch.BAD_VALUE);
    due("replace by _", x.replace(0, '_'), SlipSearch.BAD_VALUE);
    due("replace", x.replace(0, 'q'), 3);
    dueText("after replace", x, "xqyq qna");
    due("replace again", x.replace(0, 'q'), SlipSearch.NONE);
    due("replace by Q without ends", x.replace(0, 'Q'), SlipSearch.BAD_VALUE);
    due("count(6)", x.count(6), 4);
    due("undo()", x.undo(), 3);
    dueText("after undo()", x, "xanayana anana");
    due("count(2) after undo()", x.count(2), 0);
    SlipSearch empty = withTextAndPattern("bb", "a");
    due("replace of empty parts", empty.replace(0, 'c'), 3);
    dueText("after replace of empty parts", empty, "cbcbc");
    SlipSearch full = withFullText();
    add(full, "b");
    due("replace beyond 120", full.replace(0, 'c'), SlipSearch.FULL);
    due("count(6)", full.count(6), 3);
    full.cut(60);
    due("replace to 121", full.replace(0, 'c'), SlipSearch.FULL);
    full.cut(1);
    due("replace to 119", full.replace(0, 'c'), 60);
    due("count(0)", full.count(0), 119);
    SlipSearch edge = withText("");
    type(edge, "a".repeat(59));
    edge.writePad();
    edge.write('b');
    add(edge, "b");
    due("replace to 120", edge.replace(0, 'c'), 61);
    due("count(0)", edge.count(0), 120);
    SlipSearch mixed = withTextAndPattern("ab", "b");
    due("replace of an empty part and another behind it", mixed.replace(0, 'd'), 3);
    dueText("after replace", mixed, "dadd");
  }

  private static void dueFault(SlipSearch x, String pad, int fault) {
    int history = x.count(6);
    int patterns = x.count(1);
    due("addPattern() of " + pad, add(x, pad), -100 - fault);
    due("count(6)", x.count(6), history);
    due("count(1)", x.count(1), patterns);
  }

  private static void addPattern() {
    promise = 6;
    SlipSearch x = new SlipSearch();
    String[] faulty = {"", "^", "^^", "a^", " ", "A", "]", "-", "a-", "a]", "[", "[-", "[]", "[-]", "[a", "[ab",
        "[-a", "[ba]", "[aa]", "[-ba]", "[a-]", "[--a]", "[a.]", "[.]", "[_]", "[a_]", "[a[b]", "[^a]", "ab[cd]^",
        "^[a]b[", "a b", "\u00e9", "_`", ".{", "[z{]", "[`]", "[az[", "[-a^]", "[-_]"};
    int[] faults = {0, 1, 1, 1, 0, 0, 0, 0, 1, 1, 1, 2, 1, 2, 2, 3,
        3, 2, 2, 3, 2, 2, 2, 1, 1, 2, 2, 1, 6,
        6, 1, 0, 1, 1, 2, 1, 3, 3, 2};
    for (int i = 0; i < faulty.length; i++) dueFault(x, faulty[i], faults[i]);
    dueFault(x, "a".repeat(59) + "[", 60);
    dueFault(x, "a".repeat(59) + "^", 59);
    due("addPattern()", add(x, "^ab[-xz]._[q][abcdefghijklmnopqrstuvwxyz]"), 0);
    due("count(7)", x.count(7), 41);
    int[] taken = {1, 2, 67108863 - (1 << 23) - (1 << 25), 134217727, 67108864, 1 << 16, 67108863};
    for (int place = 0; place < taken.length; place++) due("takes(0, " + place + ")", x.takes(0, place), taken[place]);
    due("pattern(0, 0)", x.pattern(0, 0), 7);
    due("addPattern() again", x.addPattern(), 1);
    due("addPattern() of 60 places", add(x, "a".repeat(60)), 2);
    due("pattern(2, 0)", x.pattern(2, 0), 60);
    due("pattern(2, 1)", x.pattern(2, 1), 0);
    due("addPattern()", x.addPattern(), 3);
    due("addPattern()", x.addPattern(), 4);
    due("addPattern()", x.addPattern(), 5);
    due("addPattern() of a seventh", x.addPattern(), SlipSearch.FULL);
    dueFault(x, "a^", 1);
    due("undo()", x.undo(), 3);
    due("count(1)", x.count(1), 5);
    due("addPattern()", add(x, "z"), 5);
    SlipSearch none = new SlipSearch();
    due("addPattern() of a place that takes nothing", add(none, "[-abcdefghijklmnopqrstuvwxyz]"), 0);
    due("takes(0, 0)", none.takes(0, 0), 0);
  }

  private static void removePattern() {
    promise = 7;
    SlipSearch x = new SlipSearch();
    due("removePattern(0) of none", x.removePattern(0), SlipSearch.UNKNOWN);
    for (String each : new String[] {"a", "bb", "ccc", "dddd", "eeeee", "ffffff"}) add(x, each);
    due("removePattern(6)", x.removePattern(6), SlipSearch.UNKNOWN);
    due("removePattern(-1)", x.removePattern(-1), SlipSearch.UNKNOWN);
    due("count(6)", x.count(6), 4);
    due("removePattern(5)", x.removePattern(5), 5);
    due("removePattern(1)", x.removePattern(1), 4);
    int[] places = {1, 3, 4, 5};
    for (int p = 0; p < places.length; p++) due("pattern(" + p + ", 0)", x.pattern(p, 0), places[p]);
    due("pattern(4, 0)", x.pattern(4, 0), SlipSearch.UNKNOWN);
    due("removePattern(0)", x.removePattern(0), 3);
    due("takes(0, 0)", x.takes(0, 0), 4);
    due("takes(2, 0)", x.takes(2, 0), 16);
    x.undo();
    SlipSearch full = new SlipSearch();
    for (String each : new String[] {"a", "b", "c", "d", "e", "f"}) add(full, each);
    due("removePattern(0) of 6", full.removePattern(0), 5);
    for (int p = 0; p < 5; p++) due("takes(" + p + ", 0)", full.takes(p, 0), 2 << p);
    due("removePattern(0)", x.removePattern(0), 3);
    due("undo()", x.undo(), 3);
    due("undo()", x.undo(), 2);
    due("pattern(1, 0)", x.pattern(1, 0), 2);
    due("count(1)", x.count(1), 5);
  }

  private static void setSlips() {
    promise = 8;
    SlipSearch x = withTextAndPattern("abc", "abd");
    due("setSlips(1)", x.setSlips(1), SlipSearch.NONE);
    due("setSlips(-1)", x.setSlips(-1), SlipSearch.BAD_VALUE);
    due("setSlips(5)", x.setSlips(5), SlipSearch.BAD_VALUE);
    due("count(6)", x.count(6), 4);
    due("setSlips(0)", x.setSlips(0), 1);
    due("pattern(0, 2)", x.pattern(0, 2), 0);
    due("setSlips(4)", x.setSlips(4), 0);
    due("pattern(0, 2)", x.pattern(0, 2), 4);
    due("count(2)", x.count(2), 4);
    due("setSlips(4)", x.setSlips(4), SlipSearch.NONE);
    due("undo()", x.undo(), 3);
    due("count(2)", x.count(2), 0);
  }

  private static void type() {
    promise = 9;
    SlipSearch x = new SlipSearch();
    char[] any = {'a', 'A', ' ', (char) 0, '\uffff', '^'};
    for (int i = 0; i < any.length; i++) due("type", x.type(any[i]), i + 1);
    for (int length = any.length + 1; length <= 60; length++) due("type", x.type('b'), length);
    due("type a 61st", x.type('b'), SlipSearch.FULL);
    due("count(7)", x.count(7), 60);
    due("count(6)", x.count(6), 0);
    due("undo()", x.undo(), SlipSearch.NONE);
    type(x, "ab");
    due("type c", x.type('c'), 3);
    x.writePad();
    dueText("after the pad is written", x, "abc");
  }

  private static void clearPad() {
    promise = 10;
    SlipSearch x = new SlipSearch();
    due("clearPad()", x.clearPad(), 0);
    type(x, "abc");
    due("clearPad()", x.clearPad(), 3);
    due("count(7)", x.count(7), 0);
    due("writePad()", x.writePad(), SlipSearch.BAD_VALUE);
    due("clearPad()", x.clearPad(), 0);
    due("count(6)", x.count(6), 0);
  }

  private static void undo() {
    promise = 11;
    SlipSearch x = withText("abcdef");
    due("count(6)", x.count(6), 4);
    type(x, "xy");
    for (int left = 3; left >= 0; left--) {
      due("undo()", x.undo(), left);
      due("count(0)", x.count(0), 2 + left);
    }
    due("undo() of an empty history", x.undo(), SlipSearch.NONE);
    dueText("after five calls of undo()", x, "ab");
    due("count(7)", x.count(7), 2);
    add(x, "^a.");
    x.setSlips(3);
    x.removePattern(0);
    x.keep();
    due("undo()", x.undo(), 2);
    due("pattern(0, 1)", x.pattern(0, 1), 1);
    due("takes(0, 1)", x.takes(0, 1), 134217727);
    due("count(2)", x.count(2), 3);
    due("undo()", x.undo(), 1);
    due("count(2)", x.count(2), 1);
    due("undo()", x.undo(), 0);
    due("count(1)", x.count(1), 0);
    due("restore() of the snapshot that undo leaves", x.restore(), 2);
    due("count(2)", x.count(2), 3);
    due("count(6)", x.count(6), 1);
  }

  private static void keep() {
    promise = 12;
    SlipSearch x = new SlipSearch();
    due("keep() of an empty text", x.keep(), 0);
    due("count(6)", x.count(6), 0);
    x.write('a');
    due("restore()", x.restore(), 0);
    x.write('b');
    x.write('c');
    due("keep()", x.keep(), 2);
    due("count(6)", x.count(6), 4);
    x.cut(2);
    due("restore()", x.restore(), 2);
    dueText("after restore()", x, "bc");
  }

  private static void restore() {
    promise = 13;
    SlipSearch x = withTextAndPattern("ab ", "^b");
    due("restore() without a snapshot", x.restore(), SlipSearch.NONE);
    due("count(6)", x.count(6), 4);
    x.keep();
    x.removePattern(0);
    x.setSlips(2);
    x.cut(3);
    type(x, "pad");
    due("restore()", x.restore(), 3);
    dueText("after restore()", x, "ab ");
    due("pattern(0, 1)", x.pattern(0, 1), 1);
    due("count(2)", x.count(2), 1);
    due("count(7)", x.count(7), 3);
    x.write('c');
    due("restore() again", x.restore(), 3);
    due("undo()", x.undo(), 3);
    dueText("after undo()", x, "ab c");
    due("undo()", x.undo(), 2);
    due("undo()", x.undo(), 1);
    due("count(0)", x.count(0), 0);
    due("count(2)", x.count(2), 2);
  }

  private static void at() {
    promise = 14;
    SlipSearch x = withText("az ");
    int[] codes = {97, 122, 32};
    for (int place = 0; place < 3; place++) due("at(" + place + ")", x.at(place), codes[place]);
    for (int place : new int[] {-1, 3, 120, 121, Integer.MAX_VALUE, Integer.MIN_VALUE}) {
      due("at(" + place + ")", x.at(place), SlipSearch.UNKNOWN);
    }
    x.cut(1);
    due("at(2) after a cut", x.at(2), SlipSearch.UNKNOWN);
  }

  private static void pattern() {
    promise = 15;
    SlipSearch x = withTextAndPattern("abc xbc abc", "^a.c");
    add(x, "[a]_[-bcdefghijklmnopqrstuvwxyz]");
    add(x, "zzz");
    add(x, "..[-abcdefghijklmnopqrstuvwxyz][abcdefghijklmnopqrstuvwxyz]");
    int[][] told = {{3, 1, 6, 3, 0, 3, 1, 0}, {3, 0, 1, 1, 1, 9, 0, 1}, {3, 0, 0, 0, -5, -5, 0, 1}, {4, 0, 7, 3, 1, 3, 2, 0}};
    for (int p = 0; p < told.length; p++) {
      for (int what = 0; what < 8; what++) due("pattern(" + p + ", " + what + ")", x.pattern(p, what), told[p][what]);
      due("pattern(" + p + ", 8)", x.pattern(p, 8), SlipSearch.BAD_VALUE);
      due("pattern(" + p + ", -1)", x.pattern(p, -1), SlipSearch.BAD_VALUE);
    }
    for (int what = 7; what >= 0; what--) {
      for (int p = 3; p >= 0; p--) due("pattern(" + p + ", " + what + ")", x.pattern(p, what), told[p][what]);
    }
    due("pattern(4, 0)", x.pattern(4, 0), SlipSearch.UNKNOWN);
    due("pattern(-1, 9)", x.pattern(-1, 9), SlipSearch.UNKNOWN);
    x.setSlips(0);
    due("pattern(0, 2) without slips", x.pattern(0, 2), 2);
    due("pattern(0, 5) without slips", x.pattern(0, 5), 3);
    SlipSearch later = withTextAndPattern("abxabc", "abc");
    due("pattern(0, 4)", later.pattern(0, 4), 0);
    due("pattern(0, 5)", later.pattern(0, 5), 6);
  }

  private static void takes() {
    promise = 16;
    SlipSearch x = new SlipSearch();
    add(x, "az_.[bd][-a]");
    int[] taken = {1, 1 << 25, 1 << 26, (1 << 27) - 1, 10, (1 << 26) - 2};
    for (int place = 0; place < taken.length; place++) due("takes(0, " + place + ")", x.takes(0, place), taken[place]);
    for (int place : new int[] {-1, 6, 60, Integer.MAX_VALUE}) due("takes(0, " + place + ")", x.takes(0, place), SlipSearch.UNKNOWN);
    due("takes(1, 0)", x.takes(1, 0), SlipSearch.UNKNOWN);
    due("takes(-1, 0)", x.takes(-1, 0), SlipSearch.UNKNOWN);
    add(x, "^b");
    due("takes(1, 0) of a bound pattern", x.takes(1, 0), 2);
    due("takes(1, 1) of a bound pattern", x.takes(1, 1), SlipSearch.UNKNOWN);
  }

  private static void end() {
    promise = 17;
    SlipSearch x = withTextAndPattern("aabab", "ab");
    int[][] all = {{1, 1, 0}, {2, 1, 1}, {3, 0, 1}, {4, 1, 3}, {5, 0, 3}};
    for (int rank = 0; rank < all.length; rank++) {
      for (int what = 0; what < 3; what++) due("end(0, " + rank + ", false, " + what + ")", x.end(0, rank, false, what), all[rank][what]);
    }
    due("end(0, 5, false, 0)", x.end(0, 5, false, 0), SlipSearch.NONE);
    x.cut(1);
    x.write('a');
    due("the beginning of the last end after a change", x.end(0, 4, false, 2), 4);
    x.undo();
    due("the beginning of the last end after undo()", x.end(0, 4, false, 2), SlipSearch.NONE);
    x.write('b');
    int[][] alone = {{1, 1, 0}, {2, 1, 1}, {4, 1, 3}};
    for (int rank = 0; rank < alone.length; rank++) {
      for (int what = 0; what < 3; what++) due("end(0, " + rank + ", true, " + what + ")", x.end(0, rank, true, what), alone[rank][what]);
    }
    due("end(0, 3, true, 2)", x.end(0, 3, true, 2), SlipSearch.NONE);
    due("end(0, max, true, 2)", x.end(0, Integer.MAX_VALUE, true, 2), SlipSearch.NONE);
    due("end(0, -1, true, 0)", x.end(0, -1, true, 0), SlipSearch.BAD_VALUE);
    due("end(0, min, false, 0)", x.end(0, Integer.MIN_VALUE, false, 0), SlipSearch.BAD_VALUE);
    due("end(0, 0, true, 3)", x.end(0, 0, true, 3), SlipSearch.BAD_VALUE);
    due("end(0, 0, false, -1)", x.end(0, 0, false, -1), SlipSearch.BAD_VALUE);
    due("end(0, 100, false, 3)", x.end(0, 100, false, 3), SlipSearch.BAD_VALUE);
    due("end(1, -1, false, 3)", x.end(1, -1, false, 3), SlipSearch.UNKNOWN);
    due("end(-1, 0, false, 0)", x.end(-1, 0, false, 0), SlipSearch.UNKNOWN);
    SlipSearch bound = withTextAndPattern("xab b ab", "^ab");
    int[][] atBeginnings = {{3, 1, 0}, {5, 1, 4}, {7, 1, 6}, {8, 0, 6}};
    for (int rank = 0; rank < atBeginnings.length; rank++) {
      for (int what = 0; what < 3; what++) due("bound end " + rank + " " + what, bound.end(0, rank, false, what), atBeginnings[rank][what]);
    }
    due("bound end 4", bound.end(0, 4, false, 0), SlipSearch.NONE);
    SlipSearch empty = withTextAndPattern("", "a");
    due("end of an empty text", empty.end(0, 0, true, 0), 0);
    due("slips of an empty text", empty.end(0, 0, true, 1), 1);
    due("beginning in an empty text", empty.end(0, 0, true, 2), 0);
  }

  private static void column() {
    promise = 18;
    SlipSearch x = withTextAndPattern("bab", "ab.");
    long[][] columns = {{0, 0, 1, 2}, {1, 3, 7, 7}};
    for (int k = 0; k < 2; k++) {
      for (int place = 0; place <= 3; place++) due("column(0, " + k + ", " + place + ")", x.column(0, k, place), columns[k][place]);
    }
    due("column(0, 2, 0)", x.column(0, 2, 0), -2);
    due("column(0, -1, 0)", x.column(0, -1, 0), -2);
    due("column(0, 0, 4)", x.column(0, 0, 4), -2);
    due("column(0, 0, -1)", x.column(0, 0, -1), -2);
    due("column(1, 0, 0)", x.column(1, 0, 0), -1);
    due("column(-1, 9, 9)", x.column(-1, 9, 9), -1);
    x.setSlips(4);
    due("column(0, 4, 0)", x.column(0, 4, 0), 7);
    due("column(0, 2, 0)", x.column(0, 2, 0), 3);
    SlipSearch wide = withFullText();
    add(wide, "a".repeat(60));
    due("column(0, 0, 60)", wide.column(0, 0, 60), (1L << 60) - 1);
    due("column(0, 0, 59)", wide.column(0, 0, 59), (1L << 59) - 1);
    due("column(0, 1, 59)", wide.column(0, 1, 59), (1L << 60) - 1);
    due("column(0, 1, 120)", wide.column(0, 1, 120), (1L << 60) - 1);
    wide.cut(1);
    wide.write('b');
    due("column(0, 0, 119)", wide.column(0, 0, 119), (1L << 60) - 1);
    due("column(0, 0, 120) behind another letter", wide.column(0, 0, 120), 0);
    SlipSearch bound = withTextAndPattern("aa a", "^aa");
    long[][] boundColumns = {{0, 1, 2, 0, 1}, {1, 3, 3, 3, 3}};
    for (int k = 0; k < 2; k++) {
      for (int place = 0; place <= 4; place++) due("bound column " + k + " " + place, bound.column(0, k, place), boundColumns[k][place]);
    }
  }

  private static void dueWay(SlipSearch x, int from, int to, int... want) {
    for (int what = 0; what < 4; what++) {
      due("slips(0, " + from + ", " + to + ", " + what + ")", x.slips(0, from, to, what), want[what]);
    }
  }

  private static void slips() {
    promise = 19;
    SlipSearch x = withTextAndPattern("abxcd", "abcd");
    dueWay(x, 0, 5, 1, 1, 0, 0);
    dueWay(x, 0, 2, 2, 0, 2, 0);
    dueWay(x, 3, 3, 4, 0, 4, 0);
    dueWay(x, 0, 4, 2, 0, 0, 2);
    dueWay(x, 5, 5, 4, 0, 4, 0);
    due("slips(0, -1, 2, 0)", x.slips(0, -1, 2, 0), SlipSearch.BAD_VALUE);
    due("slips(0, 3, 2, 0)", x.slips(0, 3, 2, 0), SlipSearch.BAD_VALUE);
    due("slips(0, 0, 6, 0)", x.slips(0, 0, 6, 0), SlipSearch.BAD_VALUE);
    due("slips(0, 6, 6, 0)", x.slips(0, 6, 6, 0), SlipSearch.BAD_VALUE);
    due("slips(0, 0, 5, 4)", x.slips(0, 0, 5, 4), SlipSearch.BAD_VALUE);
    due("slips(0, 0, 5, -1)", x.slips(0, 0, 5, -1), SlipSearch.BAD_VALUE);
    due("slips(1, 9, 0, 9)", x.slips(1, 9, 0, 9), SlipSearch.UNKNOWN);
    due("slips(-1, 0, 0, 0)", x.slips(-1, 0, 0, 0), SlipSearch.UNKNOWN);
    // An exchange stands ahead of a character put in and a place left out.
    dueWay(withTextAndPattern("ba", "ab"), 0, 2, 2, 0, 0, 2);
    dueWay(withTextAndPattern("bca", "cab"), 0, 3, 2, 1, 1, 0);
    // The exchange at the end is taken although the way with one put in has as few slips.
    dueWay(withTextAndPattern("xy", "z"), 0, 2, 2, 1, 0, 1);
    // That the end is taken as it is stands ahead of all else.
    dueWay(withTextAndPattern("ca", "abca"), 0, 2, 2, 0, 2, 0);
    // A bound pattern may be fitted to any part.
    dueWay(withTextAndPattern("xab", "^ab"), 1, 3, 0, 0, 0, 0);
    SlipSearch many = withFullText();
    add(many, "b");
    dueWay(many, 0, 120, 120, 119, 0, 1);
    dueWay(many, 0, 0, 1, 0, 1, 0);
    SlipSearch wide = withFullText();
    add(wide, "b".repeat(60));
    dueWay(wide, 0, 120, 120, 60, 0, 60);
    dueWay(wide, 120, 120, 60, 0, 60, 0);
  }

  private static void density() {
    promise = 20;
    SlipSearch x = withTextAndPattern("aabab", "ab");
    dueDouble("density(0)", x.density(0), (0.0 + 0.5 + 0.5 + 1.0 + 0.5 + 1.0) / 6);
    dueDouble("density(1)", x.density(1), -1.0);
    dueDouble("density(-1)", x.density(-1), -1.0);
    x.setSlips(2);
    dueDouble("density(0) with 2 slips", x.density(0), (0.0 + 1.0 / 3 + 0.5 + 0.5 + 1.0 + 0.5 + 1.0) / 6);
    x.setSlips(0);
    dueDouble("density(0) without slips", x.density(0), 2.0 / 6);
    add(x, "zz");
    dueDouble("density(1) without ends", x.density(1), 0.0);
    SlipSearch one = withTextAndPattern("", ".");
    dueDouble("density(0) of an empty text", one.density(0), 0.5);
  }

  private static void densityBits() {
    promise = 21;
    SlipSearch x = withTextAndPattern("aabab", "ab");
    due("densityBits(1)", x.densityBits(1), SlipSearch.UNKNOWN);
    due("densityBits(-1)", x.densityBits(-1), SlipSearch.UNKNOWN);
    for (int k : new int[] {0, 2, 3, 4, 1}) {
      x.setSlips(k);
      due("densityBits(0) with " + k, x.densityBits(0), Float.floatToIntBits((float) x.density(0)));
    }
    add(x, "zzzzz");
    due("densityBits(1) without ends", x.densityBits(1), 0);
    SlipSearch full = withFullText();
    add(full, "aaaab");
    add(full, "b".repeat(5));
    add(full, "b".repeat(4));
    for (int k : new int[] {0, 2, 3, 4, 1}) {
      full.setSlips(k);
      for (int p = 0; p < 3; p++) due("densityBits", full.densityBits(p), Float.floatToIntBits((float) full.density(p)));
    }
    full.setSlips(4);
    due("densityBits(1) with no end", full.densityBits(1), 0);
    due("densityBits(2) of a fifth", full.densityBits(2), Float.floatToIntBits((float) full.density(2)));
    SlipSearch one = withTextAndPattern("", "aaaa");
    one.setSlips(4);
    due("densityBits(0) of a fifth", one.densityBits(0), Float.floatToIntBits(0.2f));
  }

  private static void count() {
    promise = 22;
    SlipSearch x = withTextAndPattern("ab ba b", "ab");
    add(x, "b");
    x.setSlips(0);
    type(x, "abc");
    int[] counts = {7, 2, 0, 4, 3, 2, 4, 3};
    for (int what = 0; what < counts.length; what++) due("count(" + what + ")", x.count(what), counts[what]);
    x.setSlips(1);
    due("count(3)", x.count(3), 15);
    due("count(4)", x.count(4), 8);
    x.removePattern(1);
    due("count(3)", x.count(3), 7);
    due("count(4)", x.count(4), 7);
    for (int what : new int[] {-1, 8, Integer.MAX_VALUE, Integer.MIN_VALUE}) {
      due("count(" + what + ")", x.count(what), SlipSearch.BAD_VALUE);
    }
    x.cut(7);
    due("count(5)", x.count(5), 0);
    x.write(' ');
    due("count(5)", x.count(5), 1);
    x.write('a');
    due("count(5)", x.count(5), 1);
  }

  public static void main(String[] args) {
    aNewObject();
    write();
    writePad();
    cut();
    replace();
    addPattern();
    removePattern();
    setSlips();
    type();
    clearPad();
    undo();
    keep();
    restore();
    at();
    pattern();
    takes();
    end();
    column();
    slips();
    density();
    densityBits();
    count();
    System.out.println(wrong == 0 ? "all promises hold" : wrong + " answers are not as due");
    if (wrong != 0) System.exit(1);
  }
}
