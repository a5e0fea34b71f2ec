/** Each sentence of the promises 1 to 22 that names a boundary case has a test of its own. */
public final class EdgeTests {
  private static final int UNKNOWN = Check.UNKNOWN;
  private static final int BAD_VALUE = Check.BAD_VALUE;
  private static final int FULL = Check.FULL;
  private static final int NOT_POSSIBLE = Check.NOT_POSSIBLE;
  private static final int NONE = Check.NONE;
  private static final int MOST = Integer.MAX_VALUE;
  private static final int LEAST = Integer.MIN_VALUE;

  private EdgeTests() { }

  private static SlipSearch rich(int length, String pad) {
    SlipSearch x = Check.rich(length);
    Check.type(x, pad);
    return x;
  }

  private static SlipSearch sixPatterns(String pad) {
    SlipSearch x = Check.kept("ab ba", 2, "a", "^bb", "c.c", "[ab]___", "[-ab]bbbb", "^______");
    Check.type(x, pad);
    return x;
  }

  // ---- promise 1: a new object

  @Check.Sentence("1: Creates an empty text, without patterns")
  static void p01NewObject() {
    SlipSearch x = new SlipSearch();
    int[] counts = {0, 0, 1, 0, 0, 0, 0, 0};
    for (int what = 0; what < 8; what++) Check.due("count(" + what + ")", x.count(what), counts[what]);
    Check.refused("at(0)", SlipSearch::new, y -> y.at(0), UNKNOWN);
    Check.refused("removePattern(0)", SlipSearch::new, y -> y.removePattern(0), UNKNOWN);
    Check.refused("replace(0, 'a')", SlipSearch::new, y -> y.replace(0, 'a'), UNKNOWN);
    Check.refused("pattern(0, 0)", SlipSearch::new, y -> y.pattern(0, 0), UNKNOWN);
    Check.refused("takes(0, 0)", SlipSearch::new, y -> y.takes(0, 0), UNKNOWN);
    Check.refused("end(0, 0, true, 0)", SlipSearch::new, y -> y.end(0, 0, true, 0), UNKNOWN);
    Check.refused("column(0, 0, 0)", SlipSearch::new, y -> y.column(0, 0, 0), UNKNOWN);
    Check.refused("slips(0, 0, 0, 0)", SlipSearch::new, y -> y.slips(0, 0, 0, 0), UNKNOWN);
    Check.refused("densityBits(0)", SlipSearch::new, y -> y.densityBits(0), UNKNOWN);
    Check.dueDouble("density(0)", x.density(0), -1.0);
  }

  @Check.Sentence("1: Creates an empty text: each object has its own")
  static void p01ObjectsOfTheirOwn() {
    SlipSearch x = Check.rich();
    String state = Check.state(x);
    SlipSearch y = Check.rich(20);
    y.cut(5);
    y.keep();
    Check.dueSame("the state of the first object", Check.state(x), state);
    Check.due("restore()", x.restore(), 5);
  }

  // ---- promise 2: write

  @Check.Sentence("2: Puts a character behind the text; returns the length of the text then")
  static void p02WriteBehindTheText() {
    SlipSearch x = new SlipSearch();
    Check.due("write", x.write('b'), 1);
    Check.dueText(x, "b");
    Check.due("write", x.write(' '), 2);
    Check.due("write", x.write('a'), 3);
    Check.dueText(x, "b a");
    x.cut(2);
    Check.due("write", x.write('z'), 2);
    Check.dueText(x, "bz");
  }

  @Check.Sentence("2: a letter from a to z, or a blank; BAD_VALUE")
  static void p02WriteOfOtherCharacters() {
    SlipSearch x = new SlipSearch();
    char[] allowed = {'a', 'b', 'y', 'z', ' '};
    for (int i = 0; i < allowed.length; i++) Check.due("write", x.write(allowed[i]), i + 1);
    char[] others = {0, 1, '\t', '\n', 31, 33, '@', 'A', 'Z', '_', '`', '{', 127, 160, 255, 256 + ' ', 256 + 'a', 0x7fff, 0xffff};
    for (char c : others) Check.refused("write of " + (int) c, Check::rich, y -> y.write(c), BAD_VALUE);
  }

  @Check.Sentence("2: FULL if it has 120 characters")
  static void p02WriteAt120() {
    SlipSearch x = Check.rich(119);
    Check.due("write of the 120th", x.write('z'), 120);
    Check.due("at(119)", x.at(119), 'z');
    for (char c : new char[] {'a', 'z', ' '}) Check.refused("write", () -> Check.rich(120), y -> y.write(c), FULL);
  }

  @Check.Sentence("2: the length; BAD_VALUE; FULL: in this order")
  static void p02WriteOrder() {
    Check.refused("write", () -> Check.rich(120), y -> y.write('_'), BAD_VALUE);
  }

  // ---- promise 3: writePad

  @Check.Sentence("3: Puts what is in the pad, which stays, behind the text: letters as they are, \"_\" as a blank")
  static void p03WritePad() {
    SlipSearch x = Check.text("q");
    Check.type(x, "_az_");
    Check.due("writePad()", x.writePad(), 5);
    Check.dueText(x, "q az ");
    Check.due("count(7)", x.count(7), 4);
    Check.due("writePad() again", x.writePad(), 9);
    Check.dueText(x, "q az  az ");
    Check.due("addPattern() of the pad that stays", x.addPattern(), 0);
    Check.due("pattern(0, 0)", x.pattern(0, 0), 4);
    Check.type(x, "_");
    Check.due("writePad() of a blank", x.writePad(), 10);
    Check.due("at(9)", x.at(9), ' ');
  }

  @Check.Sentence("3: BAD_VALUE if the pad is empty")
  static void p03WriteOfAnEmptyPad() {
    Check.refused("writePad()", SlipSearch::new, y -> y.writePad(), BAD_VALUE);
    Check.refused("writePad()", () -> rich(9, ""), y -> y.writePad(), BAD_VALUE);
    SlipSearch x = Check.text("");
    x.type('a');
    x.clearPad();
    Check.due("writePad() of an emptied pad", x.writePad(), BAD_VALUE);
  }

  @Check.Sentence("3: BAD_VALUE if the pad has any other character")
  static void p03WriteOfOtherCharacters() {
    for (int code = 0; code < 512; code++) {
      char c = (char) (code < 256 ? code : code < 384 ? code + 65536 - 384 : (code - 384) * 256 + 'a');
      boolean allowed = c >= 'a' && c <= 'z' || c == '_';
      for (String pad : new String[] {"" + c, c + "ab", "a" + c + "b", "ab" + c}) {
        SlipSearch x = new SlipSearch();
        Check.type(x, pad);
        Check.due("writePad() with " + code, x.writePad(), allowed ? pad.length() : BAD_VALUE);
      }
    }
    for (String pad : new String[] {" ", "a b", ".", "^ab", "[ab]", "ab-", "aB", "a`", "a{", "b" + (char) 353}) {
      Check.refused("writePad() of " + pad, () -> rich(9, pad), y -> y.writePad(), BAD_VALUE);
    }
    Check.refused("writePad()", () -> rich(9, "a".repeat(59) + "."), y -> y.writePad(), BAD_VALUE);
  }

  @Check.Sentence("3: FULL if there would be more than 120 characters")
  static void p03WritePadBeyond120() {
    for (int many : new int[] {1, 2, 59, 60}) {
      SlipSearch x = rich(120 - many, "c".repeat(many - 1) + "_");
      Check.due("writePad() to 120", x.writePad(), 120);
      Check.due("at(119)", x.at(119), ' ');
      Check.refused("writePad() to 121", () -> rich(121 - many, "c".repeat(many)), y -> y.writePad(), FULL);
    }
    Check.refused("writePad() to 180", () -> rich(120, "c".repeat(60)), y -> y.writePad(), FULL);
  }

  @Check.Sentence("3: the length; BAD_VALUE; FULL: in this order")
  static void p03WritePadOrder() {
    Check.refused("writePad()", () -> rich(120, ""), y -> y.writePad(), BAD_VALUE);
    Check.refused("writePad()", () -> rich(120, "a."), y -> y.writePad(), BAD_VALUE);
    Check.refused("writePad()", () -> rich(119, "a."), y -> y.writePad(), BAD_VALUE);
  }

  // ---- promise 4: cut

  @Check.Sentence("4: Takes the last characters of the text away; returns the length of the text then")
  static void p04Cut() {
    SlipSearch x = Check.text("abcdef");
    Check.due("cut(1)", x.cut(1), 5);
    Check.dueText(x, "abcde");
    Check.due("cut(3)", x.cut(3), 2);
    Check.dueText(x, "ab");
    Check.due("at(2)", x.at(2), UNKNOWN);
    Check.add(x, "b");
    Check.due("pattern(0, 2) after a cut", x.pattern(0, 2), 3);
  }

  @Check.Sentence("4: many: 1 to 120; BAD_VALUE")
  static void p04CutOfOtherNumbers() {
    for (int many : new int[] {0, -1, -120, LEAST, 121, 122, 256, MOST}) {
      Check.refused("cut(" + many + ")", () -> Check.rich(120), y -> y.cut(many), BAD_VALUE);
    }
    Check.due("cut(1)", Check.rich(120).cut(1), 119);
    Check.due("cut(119)", Check.rich(120).cut(119), 1);
    Check.due("cut(120)", Check.rich(120).cut(120), 0);
  }

  @Check.Sentence("4: NOT_POSSIBLE if it has not so many")
  static void p04CutOfTooMany() {
    for (int length : new int[] {1, 2, 60, 119}) {
      Check.due("cut of all", Check.rich(length).cut(length), 0);
      Check.refused("cut of one more", () -> Check.rich(length), y -> y.cut(length + 1), NOT_POSSIBLE);
    }
    Check.refused("cut(120)", () -> Check.rich(119), y -> y.cut(120), NOT_POSSIBLE);
    Check.refused("cut(1)", SlipSearch::new, y -> y.cut(1), NOT_POSSIBLE);
    Check.refused("cut(120)", SlipSearch::new, y -> y.cut(120), NOT_POSSIBLE);
  }

  @Check.Sentence("4: the length; BAD_VALUE; NOT_POSSIBLE: in this order")
  static void p04CutOrder() {
    Check.refused("cut(121)", () -> Check.rich(5), y -> y.cut(121), BAD_VALUE);
    Check.refused("cut(0)", SlipSearch::new, y -> y.cut(0), BAD_VALUE);
  }

  // ---- promise 5: replace

  @Check.Sentence("5: each part, from its beginning to its end, becomes a letter; returns how many parts are replaced")
  static void p05Replace() {
    dueReplaced("xabx", 0, "ab", 1, "xqx");
    dueReplaced("abx", 0, "ab", 1, "qx");
    dueReplaced("xab", 0, "ab", 1, "xq");
    dueReplaced("ab", 0, "ab", 1, "q");
    dueReplaced("abab", 0, "ab", 2, "qq");
    dueReplaced("a b", 0, "_", 1, "aqb");
    dueReplaced("aab", 0, "^aa", 1, "qb");
    dueReplaced("ab ab cab", 0, "^ab", 2, "q q cab");
    dueReplaced("a".repeat(60), 0, "a".repeat(60), 1, "q");
    dueReplaced("a".repeat(120), 0, "aaa", 40, "q".repeat(40));
    dueReplaced("zzabczz", 1, "abbc", 1, "zzqzz");
  }

  private static void dueReplaced(String text, int slips, String pattern, int parts, String want) {
    SlipSearch x = Check.searched(text, slips, pattern);
    Check.due("replace in " + text, x.replace(0, 'q'), parts);
    Check.dueText(x, want);
    Check.due("count(0)", x.count(0), want.length());
    Check.due("at behind the text", x.at(want.length()), UNKNOWN);
    x.undo();
    Check.dueText(x, text);
  }

  @Check.Sentence("5: the parts of the ends of a pattern that stand alone")
  static void p05ReplaceOfEndsAlone() {
    dueReplaced("aaaaa", 0, "aa", 2, "qqa");
    dueReplaced("ababababa", 0, "aba", 2, "qbqba");
    dueReplaced("aabab", 1, "ab", 3, "qqbqb");
  }

  @Check.Sentence("5: each part becomes a letter: an empty part too")
  static void p05ReplaceOfEmptyParts() {
    dueReplaced("", 1, "a", 1, "q");
    dueReplaced("bb", 1, "a", 3, "qbqbq");
    dueReplaced("ba", 1, "a", 3, "qbqq");
    dueReplaced("b ", 1, "^a", 3, "qq q");
  }

  @Check.Sentence("5: pattern: a pattern; UNKNOWN")
  static void p05ReplaceOfNoPattern() {
    for (int pattern : new int[] {-1, LEAST, 2, 6, MOST}) {
      Check.refused("replace(" + pattern + ")", Check::rich, y -> y.replace(pattern, 'a'), UNKNOWN);
    }
    Check.refused("replace(6)", () -> sixPatterns("a"), y -> y.replace(6, 'a'), UNKNOWN);
    Check.due("replace(0)", sixPatterns("").replace(0, 'z') > 0 ? 1 : 0, 1);
    Check.due("replace(5)", sixPatterns("").replace(5, 'z'), NONE);
    Check.due("replace(4)", sixPatterns("").replace(4, 'z'), NONE);
    Check.due("replace(3)", sixPatterns("").replace(3, 'z') > 0 ? 1 : 0, 1);
  }

  @Check.Sentence("5: letter: a letter from a to z; BAD_VALUE")
  static void p05ReplaceByOtherCharacters() {
    for (char c : new char[] {0, ' ', '_', '.', 'A', 'Z', '`', '{', 255, 256 + 'a', 0xffff}) {
      Check.refused("replace by " + (int) c, Check::rich, y -> y.replace(0, c), BAD_VALUE);
    }
    for (char c : new char[] {'a', 'z'}) {
      SlipSearch x = Check.searched("m", 0, "m");
      Check.due("replace by " + c, x.replace(0, c), 1);
      Check.dueText(x, "" + c);
    }
  }

  @Check.Sentence("5: NONE if there is no end")
  static void p05ReplaceWithoutEnds() {
    Check.refused("replace", () -> Check.kept("abab", 0, "aa"), y -> y.replace(0, 'a'), NONE);
    Check.refused("replace", () -> Check.kept("", 0, "a"), y -> y.replace(0, 'a'), NONE);
    Check.refused("replace", () -> Check.kept("", 4, "aaaaa"), y -> y.replace(0, 'a'), NONE);
    Check.refused("replace", () -> Check.kept("a".repeat(120), 0, "b"), y -> y.replace(0, 'a'), NONE);
  }

  @Check.Sentence("5: FULL if the text would have more than 120 characters")
  static void p05ReplaceBeyond120() {
    // 59 letters that are not taken: an empty part at each of 60 places, and one of a letter.
    SlipSearch x = Check.searched("a".repeat(59) + "b", 1, "b");
    Check.due("replace to 120", x.replace(0, 'c'), 61);
    Check.dueText(x, "ca".repeat(59) + "cc");
    Check.refused("replace to 121", () -> Check.kept("a".repeat(60), 1, "b"), y -> y.replace(0, 'c'), FULL);
    Check.refused("replace to 121", () -> Check.kept("b" + "a".repeat(60), 1, "b"), y -> y.replace(0, 'c'), FULL);
    Check.refused("replace to 241", () -> Check.kept("a".repeat(120), 1, "b"), y -> y.replace(0, 'c'), FULL);
    SlipSearch same = Check.searched("ab".repeat(60), 0, "b");
    Check.due("replace of 120 by 120", same.replace(0, 'c'), 60);
    Check.dueText(same, "ac".repeat(60));
  }

  @Check.Sentence("5: the parts; UNKNOWN; BAD_VALUE; NONE; FULL: in this order")
  static void p05ReplaceOrder() {
    Check.refused("replace(2, 'A')", Check::rich, y -> y.replace(2, 'A'), UNKNOWN);
    Check.refused("replace(0, 'A')", () -> Check.kept("b", 0, "a"), y -> y.replace(0, 'A'), BAD_VALUE);
    Check.refused("replace(0, ' ')", () -> Check.kept("a".repeat(120), 1, "b"), y -> y.replace(0, ' '), BAD_VALUE);
    Check.refused("replace(1, 'a')", () -> Check.kept("a".repeat(120), 1, "b"), y -> y.replace(1, 'a'), UNKNOWN);
  }

  @Check.Sentence("5: replaces the parts, and nothing else")
  static void p05ReplaceKeepsTheRest() {
    SlipSearch x = Check.rich();
    x.replace(0, 'z');
    Check.due("count(1)", x.count(1), 2);
    Check.due("count(2)", x.count(2), 2);
    Check.due("count(7)", x.count(7), 4);
    Check.due("restore()", x.restore(), 5);
  }

  @Check.Sentence("5: replaces the parts, and nothing else: in a text of 120 characters, its last one too")
  static void p05ReplaceInAFullText() {
    SlipSearch x = Check.searched("a" + "b".repeat(118) + "c", 0, "a", "c", "b");
    Check.due("replace(0, z)", x.replace(0, 'z'), 1);
    Check.dueText(x, "z" + "b".repeat(118) + "c");
    Check.due("replace(1, y)", x.replace(1, 'y'), 1);
    Check.dueText(x, "z" + "b".repeat(118) + "y");
    Check.due("replace(2, x)", x.replace(2, 'x'), 118);
    Check.dueText(x, "z" + "x".repeat(118) + "y");
  }

  // ---- promise 6: addPattern

  @Check.Sentence("6: Adds the pattern of the pad, which stays; returns its number")
  static void p06AddPattern() {
    SlipSearch x = new SlipSearch();
    Check.due("addPattern()", Check.add(x, "^a[-b]"), 0);
    Check.due("count(7)", x.count(7), 6);
    Check.due("addPattern() of the pad that stays", x.addPattern(), 1);
    x.type('z');
    Check.due("addPattern()", x.addPattern(), 2);
    int[] places = {2, 2, 3};
    for (int p = 0; p < 3; p++) Check.due("pattern(" + p + ", 0)", x.pattern(p, 0), places[p]);
    Check.due("takes(1, 1)", x.takes(1, 1), (1 << 26) - 3);
    Check.due("takes(2, 2)", x.takes(2, 2), 1 << 25);
    Check.due("addPattern()", Check.add(x, "c"), 3);
    Check.due("pattern(3, 1) behind bound ones", x.pattern(3, 1), 0);
    Check.due("pattern(2, 1)", x.pattern(2, 1), 1);
  }

  @Check.Sentence("6: -100 minus the fault of the pad if it has one (which is an error)")
  static void p06AddPatternWithAFault() {
    String[] pads = {"", "A", "^", "a]", "[-", "[az]]", "a".repeat(59) + "^", "a".repeat(59) + "["};
    int[] faults = {0, 0, 1, 1, 2, 4, 59, 60};
    for (int i = 0; i < pads.length; i++) {
      String pad = pads[i];
      Check.refused("addPattern() of " + pad, () -> rich(9, pad), y -> y.addPattern(), -100 - faults[i]);
    }
  }

  @Check.Sentence("6: FULL if there are 6")
  static void p06AddPatternOfASeventh() {
    for (String pad : new String[] {"a", "^a", "a".repeat(60)}) {
      Check.refused("addPattern()", () -> sixPatterns(pad), y -> y.addPattern(), FULL);
    }
    SlipSearch x = sixPatterns("z");
    x.removePattern(0);
    Check.due("addPattern() of the sixth", x.addPattern(), 5);
    Check.due("takes(5, 0)", x.takes(5, 0), 1 << 25);
  }

  @Check.Sentence("6: the number; the fault; FULL: in this order")
  static void p06AddPatternOrder() {
    Check.refused("addPattern()", () -> sixPatterns(""), y -> y.addPattern(), -100);
    Check.refused("addPattern()", () -> sixPatterns("a^"), y -> y.addPattern(), -101);
  }

  // ---- promise 7: removePattern

  @Check.Sentence("7: Removes a pattern; those behind it have numbers that are 1 less then; returns how many there are then")
  static void p07RemovePattern() {
    for (int removed = 0; removed < 6; removed++) {
      SlipSearch x = sixPatterns("");
      String[] before = new String[6];
      for (int p = 0; p < 6; p++) before[p] = patternOf(x, p);
      Check.due("removePattern(" + removed + ")", x.removePattern(removed), 5);
      for (int p = 0; p < 5; p++) Check.dueSame("pattern " + p, patternOf(x, p), before[p < removed ? p : p + 1]);
      Check.due("pattern(5, 0)", x.pattern(5, 0), UNKNOWN);
      for (int left = 4; left >= 0; left--) Check.due("removePattern(" + left + ")", x.removePattern(left), left);
      Check.due("count(1)", x.count(1), 0);
    }
  }

  private static String patternOf(SlipSearch x, int number) {
    StringBuilder told = new StringBuilder();
    for (int what = 0; what < 8; what++) told.append(x.pattern(number, what)).append(' ');
    for (int place = 0; place < 7; place++) told.append(x.takes(number, place)).append(' ');
    return told.toString();
  }

  @Check.Sentence("7: pattern: a pattern; UNKNOWN")
  static void p07RemoveOfNoPattern() {
    for (int pattern : new int[] {-1, LEAST, 2, 5, 6, MOST}) {
      Check.refused("removePattern(" + pattern + ")", Check::rich, y -> y.removePattern(pattern), UNKNOWN);
    }
    for (int pattern : new int[] {-1, 6, 7}) {
      Check.refused("removePattern(" + pattern + ")", () -> sixPatterns("a"), y -> y.removePattern(pattern), UNKNOWN);
    }
    Check.refused("removePattern(0)", SlipSearch::new, y -> y.removePattern(0), UNKNOWN);
  }

  // ---- promise 8: setSlips

  @Check.Sentence("8: Sets how many slips there are at most; returns the previous number")
  static void p08SetSlips() {
    for (int from = 0; from <= 4; from++) {
      for (int to = 0; to <= 4; to++) {
        if (from == to) continue;
        SlipSearch x = Check.searched("ab", from, "aaaa");
        Check.due("setSlips(" + to + ")", x.setSlips(to), from);
        Check.due("count(2)", x.count(2), to);
        Check.due("column of as many", x.column(0, to, 0), (1 << to) - 1);
        Check.due("column of one more", x.column(0, to + 1, 0), BAD_VALUE);
        x.undo();
        Check.due("count(2) after undo()", x.count(2), from);
      }
    }
  }

  @Check.Sentence("8: slips: 0 to 4; BAD_VALUE")
  static void p08SetSlipsToOtherNumbers() {
    for (int slips : new int[] {-1, -2, LEAST, 5, 6, 256, MOST}) {
      Check.refused("setSlips(" + slips + ")", Check::rich, y -> y.setSlips(slips), BAD_VALUE);
    }
  }

  @Check.Sentence("8: NONE if it is so already")
  static void p08SetSlipsToTheSame() {
    Check.refused("setSlips(1)", SlipSearch::new, y -> y.setSlips(1), NONE);
    for (int slips = 0; slips <= 4; slips++) {
      int same = slips;
      Check.refused("setSlips(" + same + ")", () -> Check.kept("ab", same, "a"), y -> y.setSlips(same), NONE);
    }
  }

  // ---- promise 9: type

  @Check.Sentence("9: Types a character behind the pad; returns the length of the pad then")
  static void p09Type() {
    SlipSearch x = new SlipSearch();
    Check.due("type", x.type('b'), 1);
    Check.due("type", x.type('_'), 2);
    Check.due("type", x.type('a'), 3);
    Check.due("count(7)", x.count(7), 3);
    x.writePad();
    Check.dueText(x, "b a");
    Check.due("count(6) after typing", x.count(6), 1);
  }

  @Check.Sentence("9: character: any character")
  static void p09TypeOfAnyCharacter() {
    SlipSearch x = null;
    for (int code = 0; code <= 65535; code++) {
      if (code % 60 == 0) x = new SlipSearch();
      Check.due("type of " + code, x.type((char) code), code % 60 + 1);
    }
  }

  @Check.Sentence("9: FULL if it has 60 characters")
  static void p09TypeOfA61st() {
    SlipSearch x = rich(9, "a".repeat(59));
    Check.due("type of the 60th", x.type('b'), 60);
    for (char c : new char[] {'z', '_', '^', 0, 0xffff}) {
      Check.refused("type of a 61st", () -> rich(9, "ab".repeat(30)), y -> y.type(c), FULL);
    }
  }

  // ---- promise 10: clearPad

  @Check.Sentence("10: Empties the pad; returns the length that it had")
  static void p10ClearPad() {
    for (int length = 0; length <= 60; length++) {
      SlipSearch x = new SlipSearch();
      for (int i = 0; i < length; i++) x.type('a');
      Check.due("clearPad()", x.clearPad(), length);
      Check.due("count(7)", x.count(7), 0);
      Check.due("clearPad() again", x.clearPad(), 0);
      Check.due("addPattern()", x.addPattern(), -100);
      Check.due("type", x.type('z'), 1);
      Check.due("writePad()", x.writePad(), 1);
      Check.dueText(x, "z");
    }
    Check.changesNothing("clearPad() of an empty pad", () -> rich(9, ""), y -> y.clearPad());
  }

  // ---- promise 11: undo

  @Check.Sentence("11: Removes and restores the latest state of the history; returns the number of states that are left")
  static void p11Undo() {
    for (int acts = 1; acts <= 6; acts++) {
      SlipSearch x = new SlipSearch();
      for (int act = 0; act < acts; act++) x.write('a');
      int kept = Math.min(acts, 4);
      for (int left = kept - 1; left >= 0; left--) {
        Check.due("undo()", x.undo(), left);
        Check.due("count(6)", x.count(6), left);
        Check.due("count(0)", x.count(0), acts - kept + left);
      }
    }
  }

  @Check.Sentence("11: NONE if the history is empty")
  static void p11UndoOfNothing() {
    Check.refused("undo()", SlipSearch::new, y -> y.undo(), NONE);
    Check.refused("undo()", EdgeTests::richWithoutHistory, y -> y.undo(), NONE);
    SlipSearch x = new SlipSearch();
    x.keep();
    x.type('a');
    x.cut(1);
    x.undo();
    Check.due("undo() after no act", x.undo(), NONE);
  }

  private static SlipSearch richWithoutHistory() {
    SlipSearch x = Check.rich(50);
    for (int i = 0; i < 4; i++) x.undo();
    return x;
  }

  // ---- promise 12: keep

  @Check.Sentence("12: Takes a snapshot of the state; returns the length of the text")
  static void p12Keep() {
    for (int length : new int[] {0, 1, 60, 119, 120}) {
      SlipSearch x = Check.searched("ab".repeat(60).substring(0, length), 3, "^a");
      Check.due("keep()", x.keep(), length);
      String kept = Check.state(x);
      x.removePattern(0);
      x.setSlips(0);
      if (length > 0) x.cut(length);
      x.write('q');
      Check.due("restore()", x.restore(), length);
      Check.dueSame("the state after restore()", Check.state(x), kept);
    }
  }

  @Check.Sentence("12: in place of the one that was")
  static void p12KeepAgain() {
    SlipSearch x = Check.rich();
    x.setSlips(4);
    String kept = Check.state(x);
    Check.due("keep()", x.keep(), 5);
    x.cut(5);
    x.removePattern(1);
    x.restore();
    Check.dueSame("the state after restore()", Check.state(x), kept);
    x.cut(5);
    Check.due("keep() of an empty text", x.keep(), 0);
    x.undo();
    Check.due("restore()", x.restore(), 0);
  }

  @Check.Sentence("12: Takes a snapshot of the state: keep is no act, and changes neither state nor history")
  static void p12KeepIsNoAct() {
    SlipSearch x = Check.rich();
    String before = Check.state(x);
    x.keep();
    Check.dueSame("the state after keep()", Check.state(x), before);
    Check.due("count(6)", x.count(6), 4);
    Check.due("undo()", x.undo(), 3);
    Check.dueText(x, "ab b");
  }

  // ---- promise 13: restore

  @Check.Sentence("13: Restores the state of the snapshot, which stays; returns the length of the text then")
  static void p13Restore() {
    SlipSearch x = Check.rich();
    for (int time = 0; time < 3; time++) {
      Check.due("restore()", x.restore(), 5);
      Check.dueText(x, "ab ba");
      Check.due("count(1)", x.count(1), 1);
      Check.due("count(2)", x.count(2), 2);
      x.cut(5);
      x.setSlips(0);
      x.removePattern(0);
    }
    // What is changed after restore() is not changed in the snapshot, nor in the history.
    x.restore();
    x.write('z');
    x.undo();
    Check.dueText(x, "ab ba");
  }

  @Check.Sentence("13: NONE if there is no snapshot")
  static void p13RestoreOfNothing() {
    Check.refused("restore()", SlipSearch::new, y -> y.restore(), NONE);
    Check.refused("restore()", () -> Check.searched("ab ba", 2, "a", "^bb"), y -> y.restore(), NONE);
    SlipSearch empty = new SlipSearch();
    empty.keep();
    Check.due("restore() of an empty snapshot", empty.restore(), 0);
    Check.due("count(6)", empty.count(6), 1);
  }

  @Check.Sentence("13: This is an act: of a state that is so already too")
  static void p13RestoreOfTheSame() {
    SlipSearch x = Check.text("ab");
    x.keep();
    Check.due("restore()", x.restore(), 2);
    Check.due("count(6)", x.count(6), 2);
    Check.due("undo()", x.undo(), 1);
    Check.dueText(x, "ab");
  }

  // ---- promise 14: at

  @Check.Sentence("14: Returns the code of the character there")
  static void p14At() {
    SlipSearch x = Check.text("az m");
    int[] codes = {97, 122, 32, 109};
    for (int place = 0; place < 4; place++) Check.due("at(" + place + ")", x.at(place), codes[place]);
    SlipSearch full = Check.text("z" + "a".repeat(118) + " ");
    Check.due("at(0)", full.at(0), 122);
    Check.due("at(118)", full.at(118), 97);
    Check.due("at(119)", full.at(119), 32);
  }

  @Check.Sentence("14: place: a place of the text, from 0; UNKNOWN")
  static void p14AtNoPlace() {
    for (int length : new int[] {1, 2, 119, 120}) {
      for (int place : new int[] {-1, LEAST, length, length + 1, 120, 121, MOST}) {
        Check.refused("at(" + place + ")", () -> Check.rich(length), y -> y.at(place), UNKNOWN);
      }
    }
    Check.refused("at(0)", SlipSearch::new, y -> y.at(0), UNKNOWN);
    SlipSearch x = Check.text("abc");
    x.cut(1);
    Check.due("at(2) after a cut", x.at(2), UNKNOWN);
    Check.due("at(1) after a cut", x.at(1), 'b');
  }

  // ---- promise 15: pattern

  @Check.Sentence("15: 0 for its places")
  static void p15Places() {
    SlipSearch x = Check.searched("", 1, "a", "^[-ab]_", "b".repeat(60));
    int[] places = {1, 2, 60};
    for (int p = 0; p < 3; p++) Check.due("pattern(" + p + ", 0)", x.pattern(p, 0), places[p]);
  }

  @Check.Sentence("15: 1 for whether it is bound (1, otherwise 0)")
  static void p15Bound() {
    SlipSearch x = Check.searched("", 1, "^a", "a", "^a");
    int[] bound = {1, 0, 1};
    for (int p = 0; p < 3; p++) Check.due("pattern(" + p + ", 1)", x.pattern(p, 1), bound[p]);
  }

  @Check.Sentence("15: 2 for its ends in the text")
  static void p15Ends() {
    SlipSearch x = Check.searched("abab", 0, "ab", "b", "c", "a");
    int[] ends = {2, 2, 0, 2};
    for (int p = 0; p < 4; p++) Check.due("pattern(" + p + ", 2)", x.pattern(p, 2), ends[p]);
    x.setSlips(1);
    int[] more = {4, 5, 5, 5};
    for (int p = 0; p < 4; p++) Check.due("pattern(" + p + ", 2)", x.pattern(p, 2), more[p]);
    Check.due("ends in an empty text", Check.searched("", 1, "b").pattern(0, 2), 1);
    Check.due("ends in a full text", Check.searched("a".repeat(120), 1, "b").pattern(0, 2), 121);
    Check.due("ends in a full text", Check.searched("a".repeat(120), 0, "a").pattern(0, 2), 120);
  }

  @Check.Sentence("15: 3 for its ends that stand alone")
  static void p15EndsAlone() {
    SlipSearch x = Check.searched("aaaa", 0, "a", "aa", "aaa", "aaaa", "aaaaa");
    int[] alone = {4, 2, 1, 1, 0};
    for (int p = 0; p < 5; p++) Check.due("pattern(" + p + ", 3)", x.pattern(p, 3), alone[p]);
    Check.due("alone in an empty text", Check.searched("", 1, "b").pattern(0, 3), 1);
    Check.due("alone in a full text", Check.searched("a".repeat(120), 1, "b").pattern(0, 3), 121);
  }

  @Check.Sentence("15: 4 for the fewest slips of any end")
  static void p15FewestSlips() {
    SlipSearch x = Check.searched("zz", 4, "z", "a", "aa", "aaa", "aaaa");
    for (int p = 0; p < 5; p++) Check.due("pattern(" + p + ", 4)", x.pattern(p, 4), p);
    SlipSearch y = Check.searched("abqcd", 2, "abcd");
    Check.due("pattern(0, 4)", y.pattern(0, 4), 1);
  }

  @Check.Sentence("15: 5 for its first end with the fewest slips")
  static void p15FirstEndWithTheFewest() {
    SlipSearch x = Check.searched("zabab", 2, "ab", "z", "q", "zz", "b");
    int[] first = {3, 1, 0, 1, 3};
    for (int p = 0; p < 5; p++) Check.due("pattern(" + p + ", 5)", x.pattern(p, 5), first[p]);
    Check.due("at the end of a full text", Check.searched("a".repeat(119) + "b", 1, "b").pattern(0, 5), 120);
    Check.due("in an empty text", Check.searched("", 1, "b").pattern(0, 5), 0);
  }

  @Check.Sentence("15: (NONE without any)")
  static void p15WithoutAnyEnd() {
    for (int what = 4; what <= 5; what++) {
      int asked = what;
      Check.refused("pattern", () -> Check.kept("zz", 0, "z", "a"), y -> y.pattern(1, asked), NONE);
      Check.refused("pattern", () -> Check.kept("", 4, "aaaaa"), y -> y.pattern(0, asked), NONE);
      Check.refused("pattern", () -> Check.kept("z".repeat(120), 3, "aaaa"), y -> y.pattern(0, asked), NONE);
    }
  }

  @Check.Sentence("15: 6 for its wild places")
  static void p15WildPlaces() {
    String all = "[abcdefghijklmnopqrstuvwxyz]";
    SlipSearch x = Check.searched("", 1, ".", "a", "..a.", all + "_", ".".repeat(60), "^.");
    int[] wild = {1, 0, 3, 0, 60, 1};
    for (int p = 0; p < 6; p++) Check.due("pattern(" + p + ", 6)", x.pattern(p, 6), wild[p]);
  }

  @Check.Sentence("15: 7 for whether it is plain: all of its places take one character each (1, otherwise 0)")
  static void p15Plain() {
    String none = "[-abcdefghijklmnopqrstuvwxyz]";
    String[] pads = {"a", "_", "^z", "[m]", "[-abcdefghijklmnopqrstuvwxy]", "a_[b]", ".", "[ab]", "[-a]", "a.", ".a", "ab[yz]c",
        none, "a".repeat(60), "a".repeat(59) + "."};
    int[] plain = {1, 1, 1, 1, 1, 1, 0, 0, 0, 0, 0, 0, 0, 1, 0};
    for (int i = 0; i < pads.length; i++) {
      Check.due("pattern(0, 7) of " + pads[i], Check.searched("", 1, pads[i]).pattern(0, 7), plain[i]);
    }
  }

  @Check.Sentence("15: pattern: a pattern; UNKNOWN")
  static void p15NoPattern() {
    for (int pattern : new int[] {-1, LEAST, 2, 6, MOST}) {
      for (int what = 0; what < 8; what++) {
        int asked = what;
        Check.refused("pattern(" + pattern + ")", Check::rich, y -> y.pattern(pattern, asked), UNKNOWN);
      }
    }
    Check.refused("pattern(6, 0)", () -> sixPatterns("a"), y -> y.pattern(6, 0), UNKNOWN);
  }

  @Check.Sentence("15: what: 0 to 7; BAD_VALUE, behind UNKNOWN")
  static void p15OtherWhat() {
    for (int what : new int[] {-1, LEAST, 8, 9, MOST}) {
      Check.refused("pattern(0, " + what + ")", Check::rich, y -> y.pattern(0, what), BAD_VALUE);
      Check.refused("pattern(2, " + what + ")", Check::rich, y -> y.pattern(2, what), UNKNOWN);
    }
  }

  // ---- promise 16: takes

  @Check.Sentence("16: as bits, 1 for a, 2 for b, and so on, and 2 to the power of 26 for the blank")
  static void p16Takes() {
    SlipSearch x = Check.searched("", 1, "abz_.[az][-az]", "^b");
    int[] bits = {1, 2, 33554432, 67108864, 134217727, 33554433, 33554430};
    for (int place = 0; place < bits.length; place++) Check.due("takes(0, " + place + ")", x.takes(0, place), bits[place]);
    Check.due("takes(1, 0)", x.takes(1, 0), 2);
  }

  @Check.Sentence("16: UNKNOWN (pattern or place)")
  static void p16TakesOfNoPatternOrPlace() {
    for (int number : new int[] {-1, LEAST, 2, 6, 60, MOST}) {
      Check.refused("takes(" + number + ", 0)", Check::rich, y -> y.takes(number, 0), UNKNOWN);
      Check.refused("takes(0, " + number + ")", Check::rich, y -> y.takes(0, number), UNKNOWN);
    }
    Check.Making wide = () -> Check.kept("ab", 1, "a".repeat(60));
    Check.due("takes(0, 59)", wide.make().takes(0, 59), 1);
    Check.refused("takes(0, 60)", wide, y -> y.takes(0, 60), UNKNOWN);
    Check.refused("takes(6, 0)", () -> sixPatterns("a"), y -> y.takes(6, 0), UNKNOWN);
  }

  // ---- promise 17: end

  @Check.Sentence("17: 0 for the end, 1 for its slips, 2 for its beginning, from the left on")
  static void p17Ends() {
    SlipSearch x = Check.searched("zab", 2, "ab");
    Check.dueEnds(x, 0, false, Check.end(0, 2, 0), Check.end(1, 2, 1), Check.end(2, 1, 1), Check.end(3, 0, 1));
  }

  @Check.Sentence("17: 2 for its beginning: whatever was asked before")
  static void p17BeginningsAskedFirst() {
    for (boolean alone : new boolean[] {false, true}) {
      SlipSearch x = Check.searched("zzzab", 0, "ab");
      Check.due("end(0, 0, " + alone + ", 2)", x.end(0, 0, alone, 2), 3);
      x.cut(3);
      x.writePad();
      Check.dueText(x, "zzab");
      Check.due("end(0, 0, " + alone + ", 2) after a change", x.end(0, 0, alone, 2), 2);
      x.undo();
      x.undo();
      Check.due("end(0, 0, " + alone + ", 2) after undo()", x.end(0, 0, alone, 2), 3);
      Check.due("addPattern()", Check.add(x, "b"), 1);
      Check.due("end(1, 0, " + alone + ", 2)", x.end(1, 0, alone, 2), 4);
      Check.due("end(0, 0, " + alone + ", 2)", x.end(0, 0, alone, 2), 3);
    }
  }

  @Check.Sentence("17: whether only ends that stand alone are told")
  static void p17EndsAlone() {
    SlipSearch x = Check.searched("zab", 2, "ab");
    Check.dueEnds(x, 0, true, Check.end(0, 2, 0), Check.end(1, 2, 1), Check.end(2, 1, 1));
    x.setSlips(1);
    Check.dueEnds(x, 0, true, Check.end(2, 1, 1));
    x.setSlips(0);
    Check.dueEnds(x, 0, true, Check.end(3, 0, 1));
  }

  @Check.Sentence("17: rank: from 0; NONE if there are not so many")
  static void p17RankBehindTheLast() {
    Check.Making made = () -> Check.kept("zab", 2, "ab", "qqqqq");
    for (int rank : new int[] {4, 5, 120, 121, MOST}) {
      for (int what = 0; what < 3; what++) {
        int asked = what;
        Check.refused("end(0, " + rank + ", false)", made, y -> y.end(0, rank, false, asked), NONE);
      }
    }
    for (int rank : new int[] {3, 4, 121, MOST}) {
      Check.refused("end(0, " + rank + ", true)", made, y -> y.end(0, rank, true, 0), NONE);
    }
    Check.refused("end(1, 0, false)", made, y -> y.end(1, 0, false, 0), NONE);
    Check.refused("end(1, 0, true)", made, y -> y.end(1, 0, true, 2), NONE);
    Check.Making full = () -> Check.kept("a".repeat(120), 1, "b");
    Check.due("end(0, 120, false, 0)", full.make().end(0, 120, false, 0), 120);
    Check.due("end(0, 120, true, 2)", full.make().end(0, 120, true, 2), 120);
    Check.refused("end(0, 121, false, 0)", full, y -> y.end(0, 121, false, 0), NONE);
    Check.refused("end(0, 121, true, 0)", full, y -> y.end(0, 121, true, 0), NONE);
  }

  @Check.Sentence("17: BAD_VALUE (rank is negative, or what)")
  static void p17BadRankOrWhat() {
    for (boolean alone : new boolean[] {false, true}) {
      for (int rank : new int[] {-1, LEAST}) {
        Check.refused("end(0, " + rank + ")", Check::rich, y -> y.end(0, rank, alone, 0), BAD_VALUE);
      }
      for (int what : new int[] {-1, LEAST, 3, 4, MOST}) {
        Check.refused("end(0, 0, " + what + ")", Check::rich, y -> y.end(0, 0, alone, what), BAD_VALUE);
      }
    }
  }

  @Check.Sentence("17: the number; UNKNOWN; BAD_VALUE; NONE: in this order")
  static void p17EndOrder() {
    for (int pattern : new int[] {-1, LEAST, 2, 6, MOST}) {
      Check.refused("end(" + pattern + ")", Check::rich, y -> y.end(pattern, 0, false, 0), UNKNOWN);
      Check.refused("end(" + pattern + ", -1)", Check::rich, y -> y.end(pattern, -1, false, 0), UNKNOWN);
      Check.refused("end(" + pattern + ", 0, 3)", Check::rich, y -> y.end(pattern, 0, true, 3), UNKNOWN);
    }
    Check.refused("end(0, 99, 3)", Check::rich, y -> y.end(0, 99, false, 3), BAD_VALUE);
    Check.refused("end(0, 99, -1)", Check::rich, y -> y.end(0, 99, true, -1), BAD_VALUE);
  }

  // ---- promise 18: column

  @Check.Sentence("18: slips: 0 to the most slips of now; -2")
  static void p18SlipsOfColumns() {
    for (int most = 0; most <= 4; most++) {
      int now = most;
      Check.Making made = () -> Check.kept("zb", now, "abcde");
      for (int slips = 0; slips <= now; slips++) {
        Check.due("column(0, " + slips + ", 0)", made.make().column(0, slips, 0), (1L << slips) - 1);
      }
      for (int slips : new int[] {-1, LEAST, now + 1, 5, MOST}) {
        Check.refused("column(0, " + slips + ", 0)", made, y -> y.column(0, slips, 0), -2);
      }
    }
  }

  @Check.Sentence("18: place: 0 to the length of the text; -2")
  static void p18PlacesOfColumns() {
    for (int length : new int[] {1, 2, 119, 120}) {
      SlipSearch last = Check.searched("a".repeat(length - 1) + "b", 0, "b");
      Check.due("column of the last place", last.column(0, 0, length), 1);
      Check.due("column of the last place but one", last.column(0, 0, length - 1), 0);
      for (int place : new int[] {-1, LEAST, length + 1, 121, MOST}) {
        Check.refused("column(0, 0, " + place + ")", () -> Check.rich(length), y -> y.column(0, 0, place), -2);
      }
    }
    Check.due("column of the first place", Check.rich(120).column(0, 3, 0), 1);
    SlipSearch empty = Check.searched("", 1, "ab");
    Check.due("column in an empty text", empty.column(0, 0, 0), 0);
    Check.due("column in an empty text", empty.column(0, 1, 0), 1);
    Check.due("column beyond an empty text", empty.column(0, 1, 1), -2);
  }

  @Check.Sentence("18: -1 if there is no such pattern, ahead of -2")
  static void p18ColumnOfNoPattern() {
    for (int pattern : new int[] {-1, LEAST, 2, 6, MOST}) {
      Check.refused("column(" + pattern + ", 0, 0)", Check::rich, y -> y.column(pattern, 0, 0), -1);
      Check.refused("column(" + pattern + ", -1, 0)", Check::rich, y -> y.column(pattern, -1, 0), -1);
      Check.refused("column(" + pattern + ", 0, -1)", Check::rich, y -> y.column(pattern, 0, -1), -1);
    }
  }

  @Check.Sentence("18: Returns the bits: of 60 places as a long")
  static void p18BitsBeyondAnInt() {
    long all = (1L << 60) - 1;
    SlipSearch x = Check.searched("a".repeat(61) + "b", 4, "a".repeat(60), ".".repeat(60));
    Check.due("column(0, 0, 32)", x.column(0, 0, 32), (1L << 32) - 1);
    Check.due("column(0, 0, 60)", x.column(0, 0, 60), all);
    Check.due("column(0, 4, 61)", x.column(0, 4, 61), all);
    Check.due("column(0, 0, 62)", x.column(0, 0, 62), 0);
    Check.due("column(0, 1, 62)", x.column(0, 1, 62), all);
    Check.due("column(1, 0, 62)", x.column(1, 0, 62), all);
    Check.due("column(1, 4, 56)", x.column(1, 4, 56), all);
    Check.due("column(1, 3, 56)", x.column(1, 3, 56), all >> 1);
  }

  // ---- promise 19: slips

  @Check.Sentence("19: 0 for all slips, 1 for characters put in, 2 for places left out, 3 for exchanges")
  static void p19KindsOfSlips() {
    Check.dueWay(Check.searched("abcd", 0, "abcd"), 0, 4, 0, 0, 0, 0);
    Check.dueWay(Check.searched("abqcd", 0, "abcd"), 0, 5, 1, 1, 0, 0);
    Check.dueWay(Check.searched("abd", 0, "abcd"), 0, 3, 1, 0, 1, 0);
    Check.dueWay(Check.searched("abqd", 0, "abcd"), 0, 4, 1, 0, 0, 1);
    Check.dueWay(Check.searched("qaqd", 0, "abcd"), 1, 3, 3, 0, 2, 1);
  }

  @Check.Sentence("19: first that a place takes a character")
  static void p19TakenFirst() {
    // With one put in, or one left out, first, both would have 1 put in and 1 left out.
    Check.dueWay(Check.searched("baa", 0, "aba"), 0, 3, 2, 0, 0, 2);
    Check.dueWay(Check.searched("bab", 0, "abb"), 0, 3, 2, 0, 0, 2);
  }

  @Check.Sentence("19: then an exchange")
  static void p19ExchangeSecond() {
    Check.dueWay(Check.searched("ba", 0, "ab"), 0, 2, 2, 0, 0, 2);
    Check.dueWay(Check.searched("ab", 0, "ba"), 0, 2, 2, 0, 0, 2);
    Check.dueWay(Check.searched("xyz", 0, "q"), 0, 3, 3, 2, 0, 1);
  }

  @Check.Sentence("19: then that a character was put in, then that a place is left out")
  static void p19PutInThird() {
    Check.dueWay(Check.searched("bcab", 0, "aba"), 0, 4, 3, 1, 0, 2);
  }

  @Check.Sentence("19: from the end of the part backward")
  static void p19FromTheEnd() {
    Check.dueWay(Check.searched("bcb", 0, "aabc"), 0, 3, 3, 1, 2, 0);
    Check.dueWay(Check.searched("bcb", 0, "cbaa"), 0, 3, 3, 0, 1, 2);
  }

  @Check.Sentence("19: as long as it is one of the fewest slips")
  static void p19AsLongAsItIsOneOfTheFewest() {
    // An exchange at the end would need 3 slips, and 2 suffice.
    Check.dueWay(Check.searched("bca", 0, "abc"), 0, 3, 2, 1, 1, 0);
    Check.dueWay(Check.searched("cab", 0, "abc"), 0, 3, 2, 1, 1, 0);
  }

  @Check.Sentence("19: from: the beginning of the part; to: its end, from the beginning to the length of the text; BAD_VALUE")
  static void p19PartsOfTheText() {
    Check.Making made = () -> Check.kept("abcd", 1, "bc");
    Check.dueWay(made.make(), 0, 4, 2, 2, 0, 0);
    Check.dueWay(made.make(), 1, 3, 0, 0, 0, 0);
    Check.dueWay(made.make(), 1, 4, 1, 1, 0, 0);
    for (int place = 0; place <= 4; place++) Check.dueWay(made.make(), place, place, 2, 0, 2, 0);
    int[][] bad = {{-1, 0}, {-1, 4}, {-1, -1}, {LEAST, 0}, {1, 0}, {4, 3}, {3, 1}, {0, 5}, {4, 5}, {5, 5}, {5, 4}, {0, MOST},
        {MOST, MOST}, {MOST, LEAST}, {0, -1}, {0, LEAST}, {LEAST, LEAST}, {LEAST, MOST}};
    for (int[] part : bad) {
      for (int what = 0; what < 4; what++) {
        int asked = what;
        Check.refused("slips(0, " + part[0] + ", " + part[1] + ")", made, y -> y.slips(0, part[0], part[1], asked), BAD_VALUE);
      }
    }
    Check.refused("slips(0, 0, 1, 0)", () -> Check.kept("", 1, "a"), y -> y.slips(0, 0, 1, 0), BAD_VALUE);
    Check.refused("slips(0, 120, 121, 0)", () -> Check.rich(120), y -> y.slips(0, 120, 121, 0), BAD_VALUE);
  }

  @Check.Sentence("19: what: 0 to 3; BAD_VALUE")
  static void p19OtherWhat() {
    for (int what : new int[] {-1, LEAST, 4, 5, MOST}) {
      Check.refused("slips(0, 0, 0, " + what + ")", Check::rich, y -> y.slips(0, 0, 0, what), BAD_VALUE);
    }
  }

  @Check.Sentence("19: UNKNOWN (pattern), ahead of BAD_VALUE")
  static void p19NoPattern() {
    for (int pattern : new int[] {-1, LEAST, 2, 6, MOST}) {
      Check.refused("slips(" + pattern + ")", Check::rich, y -> y.slips(pattern, 0, 0, 0), UNKNOWN);
      Check.refused("slips(" + pattern + ")", Check::rich, y -> y.slips(pattern, 2, 1, 0), UNKNOWN);
      Check.refused("slips(" + pattern + ")", Check::rich, y -> y.slips(pattern, 0, 0, 4), UNKNOWN);
    }
  }

  @Check.Sentence("19: Returns the number (however many they are)")
  static void p19HoweverMany() {
    SlipSearch x = Check.searched("a".repeat(120), 0, "b");
    Check.dueWay(x, 0, 120, 120, 119, 0, 1);
    Check.dueWay(x, 0, 6, 6, 5, 0, 1);
    Check.dueWay(x, 120, 120, 1, 0, 1, 0);
    Check.dueWay(Check.searched("a".repeat(120), 0, "a"), 0, 120, 119, 119, 0, 0);
    SlipSearch wide = Check.searched("a".repeat(120), 0, "b".repeat(60));
    Check.dueWay(wide, 0, 120, 120, 60, 0, 60);
    Check.dueWay(wide, 60, 60, 60, 0, 60, 0);
    Check.dueWay(wide, 0, 60, 60, 0, 0, 60);
    Check.dueWay(wide, 0, 59, 60, 0, 1, 59);
  }

  @Check.Sentence("19: Tells how a part fits a pattern: any part, of a bound pattern too")
  static void p19BoundPatterns() {
    Check.dueWay(Check.searched("xab", 0, "^ab"), 1, 3, 0, 0, 0, 0);
    Check.dueWay(Check.searched("xab", 0, "^ab"), 0, 3, 1, 1, 0, 0);
  }

  // ---- promise 20: density

  @Check.Sentence("20: the sum of 1.0 / (1 + its slips), as doubles, divided by the length of the text plus 1")
  static void p20Density() {
    SlipSearch x = Check.searched("ab", 4, "aaaa", "ab", "a");
    Check.dueDouble("density(0)", x.density(0), (0.0 + 1.0 / 5 + 1.0 / 4 + 1.0 / 4) / 3);
    Check.dueDouble("density(1)", x.density(1), (0.0 + 1.0 / 3 + 1.0 / 2 + 1.0) / 3);
    Check.dueDouble("density(2)", x.density(2), (0.0 + 1.0 / 2 + 1.0 + 1.0 / 2) / 3);
    Check.dueDouble("density of a full text", Check.searched("a".repeat(120), 0, "a").density(0), 120.0 / 121);
  }

  @Check.Sentence("20: over its ends from the left on, beginning with 0.0")
  static void p20OrderOfTheSum() {
    // Of these ends no other order has this sum, nor has a division of each share.
    SlipSearch x = Check.searched("bxxx", 4, "ab");
    Check.dueDouble("density(0)", x.density(0), (0.0 + 1.0 / 3 + 1.0 / 2 + 1.0 / 3 + 1.0 / 3 + 1.0 / 3) / 5);
    Check.dueDouble("density(0)", x.density(0), 0.3666666666666666);
  }

  @Check.Sentence("20: its ends: 0.0 without any, and the end at 0 in an empty text")
  static void p20WithoutEnds() {
    Check.dueDouble("density without ends", Check.searched("abc", 0, "z").density(0), 0.0);
    Check.dueDouble("density of an empty text without ends", Check.searched("", 0, "z").density(0), 0.0);
    Check.dueDouble("density of an empty text", Check.searched("", 1, "z").density(0), 0.5);
    Check.dueDouble("density of an empty text", Check.searched("", 4, "zzzz").density(0), 0.2);
  }

  @Check.Sentence("20: -1.0 if there is no such pattern")
  static void p20NoPattern() {
    for (int pattern : new int[] {-1, LEAST, 2, 6, MOST}) {
      Check.dueDouble("density(" + pattern + ")", Check.rich().density(pattern), -1.0);
      Check.refused("density(" + pattern + ")", Check::rich, y -> (long) y.density(pattern), -1);
    }
  }

  // ---- promise 21: densityBits

  @Check.Sentence("21: the density of a pattern, cast to a float, as bits (Float.floatToIntBits)")
  static void p21DensityBits() {
    for (int length = 0; length <= 120; length++) {
      for (int slips = 0; slips <= 4; slips++) {
        SlipSearch x = Check.searched("abbabaab".repeat(15).substring(0, length), slips, "a", "^ab", "babba", "aaaa");
        for (int p = 0; p < 4; p++) {
          Check.due("densityBits(" + p + ")", x.densityBits(p), Float.floatToIntBits((float) x.density(p)));
        }
      }
    }
    Check.due("densityBits of a half", Check.searched("", 1, "a").densityBits(0), 0x3f000000);
    Check.due("densityBits of a fifth", Check.searched("", 4, "aaaa").densityBits(0), 0x3e4ccccd);
    Check.due("densityBits of two thirds", Check.searched("ab", 1, "a").densityBits(0), 0x3f2aaaab);
    Check.due("densityBits of the densest", Check.searched("a".repeat(120), 1, "a").densityBits(0),
        Float.floatToIntBits((float) (120.5 / 121)));
  }

  @Check.Sentence("21: the density: 0.0 without ends")
  static void p21WithoutEnds() {
    Check.due("densityBits without ends", Check.searched("abc", 0, "z").densityBits(0), 0);
    Check.due("densityBits of an empty text without ends", Check.searched("", 0, "z").densityBits(0), 0);
    Check.due("densityBits of a full text without ends", Check.searched("a".repeat(120), 4, "bbbbb").densityBits(0), 0);
  }

  @Check.Sentence("21: UNKNOWN")
  static void p21NoPattern() {
    for (int pattern : new int[] {-1, LEAST, 2, 6, MOST}) {
      Check.refused("densityBits(" + pattern + ")", Check::rich, y -> y.densityBits(pattern), UNKNOWN);
    }
  }

  // ---- promise 22: count

  @Check.Sentence("22: 0 for the length of the text, 1 for the patterns, 2 for the most slips")
  static void p22CountsOfTheState() {
    SlipSearch x = new SlipSearch();
    for (int length = 0; length <= 120; length++) {
      Check.due("count(0)", x.count(0), length);
      x.write('a');
    }
    for (int many = 0; many <= 6; many++) {
      Check.due("count(1)", x.count(1), many);
      Check.add(x, "a");
    }
    Check.due("count(1)", x.count(1), 6);
    for (int slips = 4; slips >= 0; slips--) {
      x.setSlips(slips);
      Check.due("count(2)", x.count(2), slips);
    }
  }

  @Check.Sentence("22: 3 for the ends of all patterns")
  static void p22EndsOfAllPatterns() {
    SlipSearch x = Check.searched("abab", 0, "a", "ab", "b", "z");
    Check.due("count(3)", x.count(3), 6);
    x.setSlips(1);
    Check.due("count(3)", x.count(3), 5 + 4 + 5 + 5);
    Check.due("count(3) without patterns", Check.text("abab").count(3), 0);
    Check.due("count(3) without ends", Check.searched("abab", 0, "z").count(3), 0);
    Check.due("count(3) of an empty text", Check.searched("", 1, "a", "b").count(3), 2);
    SlipSearch most = Check.searched("a".repeat(120), 1, "a", "b", "c", "d", "e", ".");
    Check.due("count(3) of a full text", most.count(3), 726);
  }

  @Check.Sentence("22: 4 for places of the text at which any pattern ends")
  static void p22PlacesWithEnds() {
    SlipSearch x = Check.searched("abab", 0, "a", "a", "aba", "z");
    Check.due("count(4)", x.count(4), 2);
    Check.add(x, "b");
    Check.due("count(4)", x.count(4), 4);
    x.setSlips(1);
    Check.due("count(4)", x.count(4), 5);
    Check.due("count(4) without patterns", Check.text("abab").count(4), 0);
    Check.due("count(4) without ends", Check.searched("abab", 0, "z").count(4), 0);
    Check.due("count(4) of an empty text", Check.searched("", 1, "a", "b").count(4), 1);
    SlipSearch most = Check.searched("a".repeat(120), 1, "a", "b", "c", "d", "e", ".");
    Check.due("count(4) of a full text", most.count(4), 121);
    most.setSlips(0);
    Check.due("count(4) of a full text without slips", most.count(4), 120);
    most.cut(119);
    Check.due("count(4) after a cut", most.count(4), 1);
  }

  @Check.Sentence("22: of all patterns; any pattern: the first and the last of 6 too")
  static void p22EachOf6Patterns() {
    for (int removed = 0; removed < 6; removed++) {
      SlipSearch x = Check.searched("abcdef", 0, "a", "b", "c", "d", "e", "f");
      Check.due("count(3)", x.count(3), 6);
      Check.due("count(4)", x.count(4), 6);
      x.removePattern(removed);
      Check.due("count(3) without " + removed, x.count(3), 5);
      Check.due("count(4) without " + removed, x.count(4), 5);
    }
  }

  @Check.Sentence("22: 5 for blanks in the text")
  static void p22Blanks() {
    String[] texts = {"", "a", " ", " a ", "   ", "ab ba b"};
    int[] blanks = {0, 0, 1, 2, 3, 2};
    for (int i = 0; i < texts.length; i++) Check.due("count(5)", Check.text(texts[i]).count(5), blanks[i]);
    SlipSearch full = Check.text(" ".repeat(120));
    Check.due("count(5) of a full text", full.count(5), 120);
    full.cut(1);
    Check.due("count(5) after a cut", full.count(5), 119);
  }

  @Check.Sentence("22: 6 for the states in the history, 7 for the length of the pad")
  static void p22HistoryAndPad() {
    SlipSearch x = new SlipSearch();
    for (int acts = 0; acts <= 6; acts++) {
      Check.due("count(6)", x.count(6), acts < 4 ? acts : 4);
      x.write('a');
    }
    for (int left = 3; left >= 0; left--) {
      x.undo();
      Check.due("count(6)", x.count(6), left);
    }
    for (int length = 0; length <= 60; length++) {
      Check.due("count(7)", x.count(7), length);
      x.type('a');
    }
    Check.due("count(7)", x.count(7), 60);
    x.clearPad();
    Check.due("count(7)", x.count(7), 0);
  }

  @Check.Sentence("22: what: 0 to 7; BAD_VALUE")
  static void p22OtherWhat() {
    for (int what : new int[] {-1, -2, LEAST, 8, 9, 256, MOST}) {
      Check.refused("count(" + what + ")", Check::rich, y -> y.count(what), BAD_VALUE);
    }
  }

  public static void main(String[] args) throws ReflectiveOperationException {
    Check.runAll(EdgeTests.class);
  }
}
