import java.util.ArrayDeque;
import java.util.ArrayList;
import java.util.Deque;
import java.util.HashMap;
import java.util.List;
import java.util.Map;

/** Long runs of calls, each answer compared with that of a slow model that follows the document's words. */
public final class ModelTests {
  private static final int CALLS = 512;
  private static int wrong = 0;

  /** A place takes each of the characters of one text. */
  private record Places(List<String> taken, boolean bound) { }

  private record State(String text, List<Places> patterns, int slips) { }

  private static final class Model {
    static final String LETTERS = "abcdefghijklmnopqrstuvwxyz";
    State now = new State("", List.of(), 1);
    State snapshot = null;
    Deque<State> history = new ArrayDeque<>();
    String pad = "";
    final Map<List<Object>, int[][]> tables = new HashMap<>();

    void act(State next) {
      history.addLast(now);
      if (history.size() > 4) history.removeFirst();
      now = next;
    }

    int write(char c) {
      if (LETTERS.indexOf(c) < 0 && c != ' ') return -2;
      if (now.text.length() == 120) return -3;
      act(new State(now.text + c, now.patterns, now.slips));
      return now.text.length();
    }

    int writePad() {
      if (!pad.matches("[a-z_]+")) return -2;
      if (now.text.length() + pad.length() > 120) return -3;
      act(new State(now.text + pad.replace('_', ' '), now.patterns, now.slips));
      return now.text.length();
    }

    int cut(int many) {
      if (many < 1 || many > 120) return -2;
      if (many > now.text.length()) return -4;
      act(new State(now.text.substring(0, now.text.length() - many), now.patterns, now.slips));
      return now.text.length();
    }

    int replace(int pattern, char letter) {
      if (none(pattern)) return -1;
      if (LETTERS.indexOf(letter) < 0) return -2;
      List<int[]> parts = ends(pattern, true);
      if (parts.isEmpty()) return -5;
      StringBuilder made = new StringBuilder(now.text);
      for (int i = parts.size() - 1; i >= 0; i--) {
        made.replace(parts.get(i)[2], parts.get(i)[0], "" + letter);
      }
      if (made.length() > 120) return -3;
      act(new State(made.toString(), now.patterns, now.slips));
      return parts.size();
    }

    /** The fault is where no continuation of what stands ahead of it can be a pattern. */
    int addPattern() {
      String place = "([a-z._]|\\[-?[a-z]+\\])";
      for (int i = 0; i < pad.length(); i++) {
        if (!mayGoOn(pad.substring(0, i + 1))) return -100 - i;
      }
      if (!pad.matches("\\^?" + place + "+")) return -100 - pad.length();
      if (now.patterns.size() == 6) return -3;
      List<Places> more = new ArrayList<>(now.patterns);
      more.add(read());
      act(new State(now.text, more, now.slips));
      return more.size() - 1;
    }

    static boolean mayGoOn(String start) {
      if (!start.matches("\\^?([a-z._]|\\[-?[a-z]+\\])*(\\[-?[a-z]*)?")) return false;
      for (int i = 1; i < start.length(); i++) {
        boolean inSet = start.lastIndexOf('[', i) > start.lastIndexOf(']', i);
        boolean letters = LETTERS.indexOf(start.charAt(i - 1)) >= 0 && LETTERS.indexOf(start.charAt(i)) >= 0;
        if (inSet && letters && start.charAt(i) <= start.charAt(i - 1)) return false;
      }
      return true;
    }

    Places read() {
      List<String> taken = new ArrayList<>();
      String rest = pad.startsWith("^") ? pad.substring(1) : pad;
      while (!rest.isEmpty()) {
        String head = rest.substring(0, 1);
        if (head.equals("[")) {
          head = rest.substring(0, rest.indexOf(']') + 1);
          String inner = head.substring(1, head.length() - 1);
          taken.add(inner.startsWith("-") ? LETTERS.replaceAll("[" + inner.substring(1) + "]", "") : inner);
        } else {
          taken.add(head.equals(".") ? LETTERS + " " : head.replace('_', ' '));
        }
        rest = rest.substring(head.length());
      }
      return new Places(taken, pad.startsWith("^"));
    }

    int removePattern(int pattern) {
      if (none(pattern)) return -1;
      List<Places> fewer = new ArrayList<>(now.patterns);
      fewer.remove(pattern);
      act(new State(now.text, fewer, now.slips));
      return fewer.size();
    }

    int setSlips(int slips) {
      if (slips < 0 || slips > 4) return -2;
      if (slips == now.slips) return -5;
      int previous = now.slips;
      act(new State(now.text, now.patterns, slips));
      return previous;
    }

    int type(char c) {
      if (pad.length() == 60) return -3;
      pad = pad + c;
      return pad.length();
    }

    int clearPad() {
      int had = pad.length();
      pad = "";
      return had;
    }

    int undo() {
      if (history.isEmpty()) return -5;
      now = history.removeLast();
      return history.size();
    }

    int keep() {
      snapshot = now;
      return now.text.length();
    }

    int restore() {
      if (snapshot == null) return -5;
      act(snapshot);
      return now.text.length();
    }

    int at(int place) {
      return place < 0 || place >= now.text.length() ? -1 : now.text.charAt(place);
    }

    int pattern(int pattern, int what) {
      if (none(pattern)) return -1;
      Places p = now.patterns.get(pattern);
      List<int[]> ends = ends(pattern, false);
      int fewest = ends.stream().mapToInt(end -> end[1]).min().orElse(-5);
      switch (what) {
        case 0: return p.taken.size();
        case 1: return p.bound ? 1 : 0;
        case 2: return ends.size();
        case 3: return ends(pattern, true).size();
        case 4: return fewest;
        case 5: return ends.stream().filter(end -> end[1] == fewest).mapToInt(end -> end[0]).findFirst().orElse(-5);
        case 6: return (int) p.taken.stream().filter(taken -> taken.length() == 27).count();
        case 7: return p.taken.stream().allMatch(taken -> taken.length() == 1) ? 1 : 0;
        default: return -2;
      }
    }

    int takes(int pattern, int place) {
      if (none(pattern) || place < 0 || place >= now.patterns.get(pattern).taken.size()) return -1;
      int bits = 0;
      for (char c : now.patterns.get(pattern).taken.get(place).toCharArray()) {
        bits += c == ' ' ? 67108864 : 1 << LETTERS.indexOf(c);
      }
      return bits;
    }

    int end(int pattern, int rank, boolean alone, int what) {
      if (none(pattern)) return -1;
      if (rank < 0 || what < 0 || what > 2) return -2;
      List<int[]> ends = ends(pattern, alone);
      return rank >= ends.size() ? -5 : ends.get(rank)[what];
    }

    long column(int pattern, int slips, int place) {
      if (none(pattern)) return -1;
      if (slips < 0 || slips > now.slips || place < 0 || place > now.text.length()) return -2;
      Places p = now.patterns.get(pattern);
      long bits = 0;
      for (int i = 0; i < p.taken.size(); i++) {
        for (int b = 0; b <= place; b++) {
          if (mayBegin(p, b) && table(p, b)[i + 1][place - b] <= slips) {
            bits |= 1L << i;
            break;
          }
        }
      }
      return bits;
    }

    int slips(int pattern, int from, int to, int what) {
      if (none(pattern)) return -1;
      if (from < 0 || from > to || to > now.text.length() || what < 0 || what > 3) return -2;
      Places p = now.patterns.get(pattern);
      int[][] fewest = table(p, from);
      int i = p.taken.size();
      int j = to - from;
      int[] told = new int[4];
      while (i > 0 || j > 0) {
        boolean both = i > 0 && j > 0;
        boolean takes = both && p.taken.get(i - 1).indexOf(now.text.charAt(from + j - 1)) >= 0;
        if (takes && fewest[i][j] == fewest[i - 1][j - 1]) {
          i--;
          j--;
          continue;
        }
        told[0]++;
        if (both && !takes && fewest[i][j] == fewest[i - 1][j - 1] + 1) {
          told[3]++;
          i--;
          j--;
        } else if (j > 0 && fewest[i][j] == fewest[i][j - 1] + 1) {
          told[1]++;
          j--;
        } else {
          told[2]++;
          i--;
        }
      }
      return told[what];
    }

    double density(int pattern) {
      if (none(pattern)) return -1.0;
      double sum = 0.0;
      for (int[] end : ends(pattern, false)) sum += 1.0 / (1 + end[1]);
      return sum / (now.text.length() + 1);
    }

    int densityBits(int pattern) {
      return none(pattern) ? -1 : Float.floatToIntBits((float) density(pattern));
    }

    int count(int what) {
      switch (what) {
        case 0: return now.text.length();
        case 1: return now.patterns.size();
        case 2: return now.slips;
        case 3: case 4:
          List<Integer> places = new ArrayList<>();
          for (int p = 0; p < now.patterns.size(); p++) {
            for (int[] end : ends(p, false)) places.add(end[0]);
          }
          return what == 3 ? places.size() : (int) places.stream().distinct().count();
        case 5: return now.text.replaceAll("[^ ]", "").length();
        case 6: return history.size();
        case 7: return pad.length();
        default: return -2;
      }
    }

    boolean none(int pattern) {
      return pattern < 0 || pattern >= now.patterns.size();
    }

    boolean mayBegin(Places p, int b) {
      return !p.bound || b == 0 || now.text.charAt(b - 1) == ' ';
    }

    /** Each end with its slips and its beginning. */
    List<int[]> ends(int pattern, boolean alone) {
      Places p = now.patterns.get(pattern);
      List<int[]> ends = new ArrayList<>();
      int last = 0;
      for (int e = 0; e <= now.text.length(); e++) {
        int fewest = Integer.MAX_VALUE;
        int beginning = -1;
        for (int b = 0; b <= e; b++) {
          int slips = mayBegin(p, b) ? table(p, b)[p.taken.size()][e - b] : Integer.MAX_VALUE;
          if (slips <= fewest) {
            fewest = slips;
            beginning = b;
          }
        }
        if (fewest <= now.slips && (!alone || beginning >= last)) {
          ends.add(new int[] {e, fewest, beginning});
          last = e;
        }
      }
      return ends;
    }

    /** The fewest slips by which the first i places fit the part of j characters from b on. */
    int[][] table(Places p, int b) {
      List<Object> key = List.of(p.taken, now.text.substring(b));
      int[][] fewest = tables.get(key);
      if (fewest != null) return fewest;
      if (tables.size() > 2000) tables.clear();
      fewest = new int[p.taken.size() + 1][now.text.length() - b + 1];
      for (int i = 0; i < fewest.length; i++) {
        for (int j = 0; j < fewest[i].length; j++) {
          int best = i == 0 && j == 0 ? 0 : 1000;
          if (i > 0) best = Math.min(best, fewest[i - 1][j] + 1);
          if (j > 0) best = Math.min(best, fewest[i][j - 1] + 1);
          if (i > 0 && j > 0) {
            boolean takes = p.taken.get(i - 1).indexOf(now.text.charAt(b + j - 1)) >= 0;
            best = Math.min(best, fewest[i - 1][j - 1] + (takes ? 0 : 1));
          }
          fewest[i][j] = best;
        }
      }
      tables.put(key, fewest);
      return fewest;
    }
  }

  /** One object beside its model; the numbers come from a seed, so that each run is the same each time. */
  private static final class Run {
    final SlipSearch real = new SlipSearch();
    final Model model = new Model();
    final String signs;
    final int run;
    long seed;
    int calls = 0;

    Run(int run, String signs) {
      this.run = run;
      this.signs = signs;
      seed = 1000003L * run + 17;
    }

    int below(int bound) {
      seed = seed * 6364136223846793005L + 1442695040888963407L;
      return (int) ((seed >>> 33) % bound);
    }

    boolean oneIn(int many) {
      return below(many) == 0;
    }

    void due(String call, long got, long want) {
      dueAnswer(call, got == want, "" + got, "" + want);
    }

    void dueDouble(String call, double got, double want) {
      dueAnswer(call, got == want, "" + got, "" + want);
    }

    void dueAnswer(String call, boolean right, String got, String want) {
      calls++;
      if (!right) {
        wrong++;
        if (wrong < 30) {
          System.out.println("run " + run + ", call " + calls + ": " + call + " answered " + got + ", due is " + want
              + " for \"" + model.now.text + "\", " + model.now.patterns + ", slips " + model.now.slips);
        }
      }
    }

    char sign() {
      return signs.charAt(below(signs.length()));
    }

    void typeAll(String typed) {
      due("clearPad()", real.clearPad(), model.clearPad());
      for (char c : typed.toCharArray()) due("type " + c, real.type(c), model.type(c));
    }

    String somePlaces(int many) {
      StringBuilder made = new StringBuilder(oneIn(4) ? "^" : "");
      for (int i = 0; i < many; i++) {
        int kind = below(12);
        String letter = "" + sign();
        if (kind < 8) made.append(letter.replace(' ', '_'));
        else if (kind == 8) made.append('.');
        else if (kind == 9) made.append("[").append(letter.replace(' ', 'b')).append("]");
        else if (kind == 10) made.append("[-").append(letter.replace(' ', 'b')).append("]");
        else made.append("[").append(below(2) == 0 ? "-" : "").append("acz]");
      }
      if (oneIn(5)) made.insert(below(made.length() + 1), "^[]-._ Aba".charAt(below(10)));
      if (oneIn(8)) made.setLength(below(made.length() + 1));
      return made.toString();
    }

    void makeText(int many) {
      StringBuilder made = new StringBuilder();
      for (int i = 0; i < many; i++) made.append(sign());
      typeAll(made.toString().replace(' ', '_'));
      due("writePad()", real.writePad(), model.writePad());
    }

    void makePattern(int many) {
      typeAll(somePlaces(many));
      due("addPattern() of " + model.pad, real.addPattern(), model.addPattern());
    }

    int somePattern() {
      return oneIn(12) ? below(9) - 1 : below(Math.max(1, model.now.patterns.size()));
    }

    int somePlace() {
      return below(model.now.text.length() + 3) - 1;
    }

    void changeSomething() {
      int p = somePattern();
      char c = oneIn(6) ? "A_. {`z\u1234".charAt(below(8)) : sign();
      switch (below(12)) {
        case 0: case 1: due("write " + c, real.write(c), model.write(c)); break;
        case 2: makeText(below(12)); break;
        case 3: { int n = oneIn(4) ? below(124) - 1 : 1 + below(4); due("cut " + n, real.cut(n), model.cut(n)); break; }
        case 4: due("replace " + p, real.replace(p, c), model.replace(p, c)); break;
        case 5: makePattern(1 + below(6)); break;
        case 6: if (oneIn(3)) due("removePattern " + p, real.removePattern(p), model.removePattern(p)); break;
        case 7: { int k = below(7) - 1; due("setSlips " + k, real.setSlips(k), model.setSlips(k)); break; }
        case 8: due("undo()", real.undo(), model.undo()); break;
        case 9: due("keep()", real.keep(), model.keep()); break;
        case 10: if (oneIn(3)) due("restore()", real.restore(), model.restore()); break;
        default: due("type " + c, real.type(c), model.type(c));
      }
    }

    void askSomething() {
      int p = somePattern();
      int place = somePlace();
      int other = somePlace();
      int small = below(10) - 1;
      switch (below(12)) {
        case 0: due("at " + place, real.at(place), model.at(place)); break;
        case 1: case 2: due("pattern " + p + " " + small, real.pattern(p, small), model.pattern(p, small)); break;
        case 3: due("takes " + p + " " + small, real.takes(p, small), model.takes(p, small)); break;
        case 4: case 5: {
          int what = below(oneIn(6) ? 5 : 3) - (oneIn(20) ? 1 : 0);
          boolean alone = oneIn(2);
          due("end " + p + " " + small + " " + alone + " " + what, real.end(p, small, alone, what), model.end(p, small, alone, what));
          break;
        }
        case 6: case 7: {
          int k = below(model.now.slips + 2) - (oneIn(8) ? 1 : 0);
          due("column " + p + " " + k + " " + place, real.column(p, k, place), model.column(p, k, place));
          break;
        }
        case 8: case 9: {
          int from = oneIn(6) ? place : Math.min(place, other);
          int to = oneIn(6) ? other : Math.max(place, other);
          int what = below(5) - (oneIn(20) ? 1 : 0);
          due("slips " + p + " " + from + " " + to + " " + what, real.slips(p, from, to, what), model.slips(p, from, to, what));
          break;
        }
        case 10:
          dueDouble("density " + p, real.density(p), model.density(p));
          due("densityBits " + p, real.densityBits(p), model.densityBits(p));
          break;
        default: due("count " + small, real.count(small), model.count(small));
      }
    }

    void askAll() {
      for (int what = -1; what < 9; what++) due("count " + what, real.count(what), model.count(what));
      for (int place = -1; place <= model.now.text.length(); place++) due("at " + place, real.at(place), model.at(place));
      for (int p = 0; p <= model.now.patterns.size() && calls < CALLS - 40; p++) {
        for (int what = -1; what < 9; what++) due("pattern " + p + " " + what, real.pattern(p, what), model.pattern(p, what));
        for (int rank = 0; rank < 4; rank++) {
          for (int what = 0; what < 3; what++) {
            due("end " + p + " " + rank + " " + what, real.end(p, rank, false, what), model.end(p, rank, false, what));
            due("end alone " + p + " " + rank + " " + what, real.end(p, rank, true, what), model.end(p, rank, true, what));
          }
        }
      }
    }

    void go() {
      while (calls < CALLS - 200) {
        if (oneIn(3)) changeSomething(); else askSomething();
      }
      askAll();
    }

    /** Texts and patterns that are as long as they may be. */
    void goFar() {
      makeText(60);
      makeText(50 + below(11));
      typeAll(nearTheText(oneIn(2) ? 60 : 20 + below(30)));
      due("addPattern() of " + model.pad, real.addPattern(), model.addPattern());
      makePattern(1 + below(3));
      int k = 2 + below(3);
      due("setSlips " + k, real.setSlips(k), model.setSlips(k));
      while (calls < CALLS - 10) {
        int p = below(2);
        switch (below(24)) {
          case 0: due("write a", real.write('a'), model.write('a')); break;
          case 1: due("replace " + p, real.replace(p, 'c'), model.replace(p, 'c')); break;
          case 2: due("undo()", real.undo(), model.undo()); break;
          default: askSomething();
        }
      }
    }

    /** A pattern for a part of the text, with some places changed, added and taken away. */
    String nearTheText(int many) {
      int from = below(model.now.text.length() - many + 1);
      StringBuilder made = new StringBuilder(model.now.text.substring(from, from + many).replace(' ', '_'));
      for (int change = below(6); change > 0; change--) {
        int place = below(made.length());
        char put = oneIn(2) ? '.' : 'b';
        switch (below(3)) {
          case 0: made.setCharAt(place, put); break;
          case 1: made.deleteCharAt(place); break;
          default: made.insert(place, put);
        }
      }
      if (oneIn(4)) made.insert(0, '^');
      made.setLength(Math.min(made.length(), 60));
      return made.toString();
    }
  }

  public static void main(String[] args) {
    String[] signs = {"ab", "ab ", "abc", "aab  c", "a", "abcdefghijklmnopqrstuvwxyz "};
    for (int run = 0; run < 1200; run++) new Run(run, signs[run % signs.length]).go();
    for (int run = 1200; run < 1260; run++) new Run(run, signs[run % signs.length]).goFar();
    System.out.println(wrong == 0 ? "the model agrees" : wrong + " answers are not as due");
    if (wrong != 0) System.exit(1);
  }
}
