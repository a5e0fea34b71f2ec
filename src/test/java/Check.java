import java.lang.annotation.Retention;
import java.lang.annotation.RetentionPolicy;
import java.lang.reflect.Method;
import java.util.Arrays;
import java.util.Comparator;

/** What the tests of single sentences share. */
final class Check {
  /** The sentence of the document that a test would find broken. */
  @Retention(RetentionPolicy.RUNTIME)
  @interface Sentence {
    String value();
  }

  interface Making {
    SlipSearch make();
  }

  interface Call {
    long on(SlipSearch x);
  }

  static final int UNKNOWN = -1;
  static final int BAD_VALUE = -2;
  static final int FULL = -3;
  static final int NOT_POSSIBLE = -4;
  static final int NONE = -5;

  /** Numbers that no pattern, place, rank or what can have, whatever the state is. */
  static final int[] NEVER = {-1, -2, -128, Integer.MIN_VALUE, 121, 256, Integer.MAX_VALUE};

  private static final String[] DEEPER = {"", "undo", "undo undo", "undo undo undo", "undo undo undo undo",
      "undo undo undo undo undo", "restore", "restore undo", "writePad", "addPattern", "clearPad", "type addPattern"};

  private static int wrong = 0;
  private static String sentence = "";

  private Check() { }

  static void runAll(Class<?> tests) throws ReflectiveOperationException {
    Method[] methods = tests.getDeclaredMethods();
    Arrays.sort(methods, Comparator.comparing(Method::getName));
    int run = 0;
    for (Method each : methods) {
      if (!each.isAnnotationPresent(Sentence.class)) continue;
      sentence = each.getName() + " (" + each.getAnnotation(Sentence.class).value() + ")";
      each.invoke(null);
      run++;
    }
    System.out.println(run + " sentences, " + wrong + " answers that are not as due");
    if (wrong != 0 || run == 0) System.exit(1);
  }

  private static void fault(String what) {
    wrong++;
    if (wrong < 40) System.out.println(sentence + ": " + what);
  }

  static void due(String call, long got, long want) {
    if (got != want) fault(call + " answered " + got + ", due is " + want);
  }

  static void dueDouble(String call, double got, double want) {
    if (Double.doubleToRawLongBits(got) != Double.doubleToRawLongBits(want)) {
      fault(call + " answered " + got + ", due is " + want);
    }
  }

  static void dueSame(String what, String got, String want) {
    if (!got.equals(want)) fault(what + " is " + got + ", due is " + want);
  }

  static void dueText(SlipSearch x, String want) {
    String got = textOf(x);
    if (!got.equals(want)) fault("the text is \"" + got + "\", due is \"" + want + "\"");
  }

  /** The call answers as it is due, and nothing can be told afterwards that could not be told without it. */
  static void refused(String call, Making making, Call refused, long want) {
    due(call, refused.on(making.make()), want);
    changesNothing(call, making, refused);
  }

  static void changesNothing(String call, Making making, Call asked) {
    for (String calls : DEEPER) {
      SlipSearch without = making.make();
      SlipSearch with = making.make();
      asked.on(with);
      String due = after(without, calls);
      String got = after(with, calls);
      if (!got.equals(due)) fault(call + " has changed something: " + got + " after [" + calls + "], due is " + due);
    }
  }

  private static String after(SlipSearch x, String calls) {
    StringBuilder answers = new StringBuilder();
    for (String each : calls.split(" ")) {
      switch (each) {
        case "undo": answers.append(x.undo()); break;
        case "restore": answers.append(x.restore()); break;
        case "writePad": answers.append(x.writePad()); break;
        case "addPattern": answers.append(x.addPattern()); break;
        case "clearPad": answers.append(x.clearPad()); break;
        case "type": answers.append(x.type(']')); break;
        default: break;
      }
      answers.append(' ');
    }
    return answers + view(x);
  }

  /** A state, and how much there is beside it. */
  private static String view(SlipSearch x) {
    return state(x) + ", history " + x.count(6) + ", pad " + x.count(7);
  }

  /** All that undo() and restore() bring back. */
  static String state(SlipSearch x) {
    StringBuilder seen = new StringBuilder("\"" + textOf(x) + "\"");
    int patterns = x.count(1);
    for (int p = 0; p < patterns; p++) {
      seen.append(x.pattern(p, 1) == 1 ? " ^" : " ");
      int places = x.pattern(p, 0);
      for (int place = 0; place < places; place++) seen.append(Integer.toHexString(x.takes(p, place))).append(',');
    }
    for (int what = 0; what < 6; what++) seen.append(' ').append(x.count(what));
    return seen.toString();
  }

  static String textOf(SlipSearch x) {
    StringBuilder text = new StringBuilder();
    int length = x.count(0);
    for (int place = 0; place < length; place++) text.append((char) x.at(place));
    return text.toString();
  }

  static void type(SlipSearch x, String pad) {
    x.clearPad();
    for (char c : pad.toCharArray()) x.type(c);
  }

  static int add(SlipSearch x, String pattern) {
    type(x, pattern);
    return x.addPattern();
  }

  /** A new object with a text; its pad is empty. */
  static SlipSearch text(String text) {
    SlipSearch x = new SlipSearch();
    for (int from = 0; from < text.length(); from += 60) {
      type(x, text.substring(from, Math.min(text.length(), from + 60)).replace(' ', '_'));
      x.writePad();
    }
    x.clearPad();
    return x;
  }

  /** A new object with a text, the most slips, and patterns. */
  static SlipSearch searched(String text, int slips, String... patterns) {
    return search(text(text), slips, patterns);
  }

  /** The same, with a snapshot of the text alone. */
  static SlipSearch kept(String text, int slips, String... patterns) {
    SlipSearch x = text(text);
    x.keep();
    return search(x, slips, patterns);
  }

  private static SlipSearch search(SlipSearch x, int slips, String... patterns) {
    x.setSlips(slips);
    for (String each : patterns) due("addPattern() of " + each, add(x, each), x.count(1) - 1);
    return x;
  }

  /** An object of which each part is of its own: a full history, a snapshot, patterns and a pad. */
  static SlipSearch rich() {
    SlipSearch x = searched("ab ba", 2, "^a.");
    x.keep();
    x.write('c');
    add(x, "b[ac]_");
    x.cut(2);
    x.write(' ');
    type(x, "xy_z");
    return x;
  }

  /** An object as rich, with a text of so many characters. */
  static SlipSearch rich(int length) {
    SlipSearch x = searched("ab".repeat(length / 2) + "b".repeat(length % 2), 0, "^a.", "b");
    x.cut(1);
    x.keep();
    x.setSlips(4);
    x.write('c');
    x.removePattern(0);
    type(x, "xy_z");
    return x;
  }

  /** The ends of a pattern: each with its end, its slips and its beginning. */
  static void dueEnds(SlipSearch x, int pattern, boolean alone, int[]... want) {
    for (int rank = 0; rank < want.length; rank++) {
      for (int what = 0; what < 3; what++) {
        String call = "end(" + pattern + ", " + rank + ", " + alone + ", " + what + ")";
        due(call, x.end(pattern, rank, alone, what), want[rank][what]);
      }
    }
    due("end " + want.length + " of pattern " + pattern, x.end(pattern, want.length, alone, 0), NONE);
    due("the ends of pattern " + pattern, x.pattern(pattern, alone ? 3 : 2), want.length);
  }

  static int[] end(int end, int slips, int beginning) {
    return new int[] {end, slips, beginning};
  }

  /** How a part fits a pattern: all slips, put in, left out, exchanged. */
  static void dueWay(SlipSearch x, int from, int to, int... want) {
    for (int what = 0; what < 4; what++) {
      due("slips(0, " + from + ", " + to + ", " + what + ")", x.slips(0, from, to, what), want[what]);
    }
  }
}
