import java.util.ArrayDeque;
import java.util.ArrayList;
import java.util.Deque;
import java.util.HashMap;
import java.util.List;
import java.util.Map;

/**
 * All short texts with all short patterns. How a part fits is not counted by a table here, but found as the words
 * say it: all that the places take, and then, slip by slip, all that can be made of it.
 */
public final class SmallTests {
  private static final int LONGEST = 4;
  private static final int MOST_PLACES = 3;
  /** The "c" stands for all letters that no text here has. */
  private static final String SIGNS = "abc ";
  private static final String[] READ = {"a", "b", "_", ".", "[ab]", "[-a]"};
  private static final String[] TAKEN = {"a", "b", " ", "abc ", "ab", "bc"};

  private static int wrong = 0;
  private static int answers = 0;

  /** Places, each a number in READ and TAKEN, with the fewest slips by which they fit each part. */
  private static final class Places {
    final List<Integer> kinds;
    final Places allButTheLast;
    final Map<String, Integer> slips = new HashMap<>();

    Places(List<Integer> kinds, Places allButTheLast) {
      this.kinds = kinds;
      this.allButTheLast = allButTheLast;
      Deque<String> made = new ArrayDeque<>(madeWithout(kinds.size()));
      for (String each : made) slips.put(each, 0);
      while (!made.isEmpty()) {
        String from = made.remove();
        for (String next : oneSlipMore(from)) {
          if (slips.putIfAbsent(next, slips.get(from) + 1) == null) made.add(next);
        }
      }
    }

    /** What the first places take, without a slip. */
    private List<String> madeWithout(int many) {
      if (many == 0) return List.of("");
      List<String> made = new ArrayList<>();
      for (String start : madeWithout(many - 1)) {
        for (char c : TAKEN[kinds.get(many - 1)].toCharArray()) made.add(start + c);
      }
      return made;
    }

    private static List<String> oneSlipMore(String from) {
      List<String> made = new ArrayList<>();
      for (int i = 0; i <= from.length(); i++) {
        String ahead = from.substring(0, i);
        String behind = from.substring(i);
        if (i < from.length()) made.add(ahead + behind.substring(1));
        for (char c : SIGNS.toCharArray()) {
          if (from.length() < LONGEST) made.add(ahead + c + behind);
          if (i < from.length()) made.add(ahead + c + behind.substring(1));
        }
      }
      return made;
    }

    int fit(String part) {
      return slips.get(part);
    }

    /** All slips, put in, left out, exchanged: told from the end of the part backward. */
    int[] way(String part) {
      if (kinds.isEmpty()) return new int[] {part.length(), part.length(), 0, 0};
      int fewest = fit(part);
      if (!part.isEmpty()) {
        String shorter = part.substring(0, part.length() - 1);
        boolean takes = TAKEN[kinds.get(kinds.size() - 1)].indexOf(part.charAt(part.length() - 1)) >= 0;
        int aslant = allButTheLast.fit(shorter);
        if (takes && aslant == fewest) return allButTheLast.way(shorter);
        if (!takes && aslant + 1 == fewest) return oneMore(allButTheLast.way(shorter), 3);
        if (fit(shorter) + 1 == fewest) return oneMore(way(shorter), 1);
      }
      return oneMore(allButTheLast.way(part), 2);
    }

    private static int[] oneMore(int[] way, int kind) {
      way[0]++;
      way[kind]++;
      return way;
    }
  }

  /** One text with one pattern: what is due, and the object. */
  private static final class Search {
    final String text;
    final Places places;
    final boolean bound;
    final SlipSearch real = new SlipSearch();

    Search(String text, Places places, boolean bound) {
      this.text = text;
      this.places = places;
      this.bound = bound;
      for (char c : text.toCharArray()) real.write(c);
      if (bound) real.type('^');
      for (int kind : places.kinds) {
        for (char c : READ[kind].toCharArray()) real.type(c);
      }
      due("addPattern", 0, 0, 0, real.addPattern(), 0);
    }

    void due(String call, int first, int second, int third, long got, long want) {
      answers++;
      if (got == want) return;
      wrong++;
      if (wrong < 30) {
        System.out.println(call + " " + first + " " + second + " " + third + " of " + (bound ? "^" : "") + places.kinds
            + " in \"" + text + "\" answered " + got + ", due is " + want);
      }
    }

    boolean mayBegin(int b) {
      return !bound || b == 0 || text.charAt(b - 1) == ' ';
    }

    /** The end e with its slips and its beginning. */
    int[] endAt(int e) {
      int[] end = {e, Integer.MAX_VALUE, -1};
      for (int b = 0; b <= e; b++) {
        if (mayBegin(b) && places.fit(text.substring(b, e)) <= end[1]) {
          end[1] = places.fit(text.substring(b, e));
          end[2] = b;
        }
      }
      return end;
    }

    void askEnds(int most) {
      List<int[]> ends = new ArrayList<>();
      List<int[]> alone = new ArrayList<>();
      for (int e = 0; e <= text.length(); e++) {
        int[] end = endAt(e);
        if (end[1] > most) continue;
        ends.add(end);
        if (alone.isEmpty() || end[2] >= alone.get(alone.size() - 1)[0]) alone.add(end);
      }
      due("pattern", 0, 2, most, real.pattern(0, 2), ends.size());
      due("pattern", 0, 3, most, real.pattern(0, 3), alone.size());
      askEach(ends, false, most);
      askEach(alone, true, most);
      askSums(ends, most);
      askReplace(alone, most);
    }

    void askEach(List<int[]> ends, boolean alone, int most) {
      for (int rank = 0; rank < ends.size(); rank++) {
        for (int what = 0; what < 3; what++) {
          due(alone ? "end alone" : "end", rank, what, most, real.end(0, rank, alone, what), ends.get(rank)[what]);
        }
      }
      due("end behind the last", ends.size(), 0, most, real.end(0, ends.size(), alone, 0), SlipSearch.NONE);
    }

    void askSums(List<int[]> ends, int most) {
      int[] first = {SlipSearch.NONE, SlipSearch.NONE};
      double sum = 0.0;
      for (int[] end : ends) {
        if (first[1] == SlipSearch.NONE || end[1] < first[1]) first = end;
        sum += 1.0 / (1 + end[1]);
      }
      double density = sum / (text.length() + 1);
      due("pattern", 0, 4, most, real.pattern(0, 4), first[1]);
      due("pattern", 0, 5, most, real.pattern(0, 5), first[0]);
      due("density", 0, 0, most, Double.doubleToLongBits(real.density(0)), Double.doubleToLongBits(density));
      due("densityBits", 0, 0, most, real.densityBits(0), Float.floatToIntBits((float) density));
      due("count", 3, 0, most, real.count(3), ends.size());
      due("count", 4, 0, most, real.count(4), ends.size());
    }

    void askReplace(List<int[]> alone, int most) {
      StringBuilder made = new StringBuilder();
      int copied = 0;
      for (int[] end : alone) {
        made.append(text, copied, end[2]).append('z');
        copied = end[0];
      }
      made.append(text.substring(copied));
      due("replace", 0, 0, most, real.replace(0, 'z'), alone.isEmpty() ? SlipSearch.NONE : alone.size());
      due("the length then", 0, 0, most, real.count(0), made.length());
      for (int i = 0; i < made.length(); i++) due("at", i, 0, most, real.at(i), made.charAt(i));
      if (!alone.isEmpty()) real.undo();
    }

    void askColumns(int most) {
      for (int slips = 0; slips <= most; slips++) {
        for (int e = 0; e <= text.length(); e++) {
          long bits = 0;
          Places first = places;
          for (int bit = places.kinds.size() - 1; bit >= 0; bit--) {
            for (int b = 0; b <= e; b++) {
              if (mayBegin(b) && first.fit(text.substring(b, e)) <= slips) bits |= 1L << bit;
            }
            first = first.allButTheLast;
          }
          due("column", 0, slips, e, real.column(0, slips, e), bits);
        }
      }
    }

    void askWays() {
      for (int from = 0; from <= text.length(); from++) {
        for (int to = from; to <= text.length(); to++) {
          int[] way = places.way(text.substring(from, to));
          for (int what = 0; what < 4; what++) due("slips", from, to, what, real.slips(0, from, to, what), way[what]);
        }
      }
    }
  }

  private static void addTexts(List<String> texts, String text) {
    texts.add(text);
    if (text.length() == LONGEST) return;
    for (char c : "ab ".toCharArray()) addTexts(texts, text + c);
  }

  private static void addPlaces(List<Places> all, Places places) {
    if (!places.kinds.isEmpty()) all.add(places);
    if (places.kinds.size() == MOST_PLACES) return;
    for (int kind = 0; kind < READ.length; kind++) {
      List<Integer> kinds = new ArrayList<>(places.kinds);
      kinds.add(kind);
      addPlaces(all, new Places(kinds, places));
    }
  }

  private static void ask(String text, Places places, boolean bound) {
    for (int most : new int[] {0, 1, 2, 4}) {
      Search search = new Search(text, places, bound);
      search.real.setSlips(most);
      search.askEnds(most);
      search.askColumns(most);
      if (most == 0) search.askWays();
    }
  }

  public static void main(String[] args) {
    List<String> texts = new ArrayList<>();
    addTexts(texts, "");
    List<Places> all = new ArrayList<>();
    addPlaces(all, new Places(List.of(), null));
    for (Places places : all) {
      for (String text : texts) {
        for (boolean bound : new boolean[] {false, true}) ask(text, places, bound);
      }
    }
    System.out.println(all.size() + " patterns in " + texts.size() + " texts: " + answers + " answers, " + wrong
        + " of them not as due");
    if (wrong != 0) System.exit(1);
  }
}
