import java.lang.reflect.Constructor;
import java.lang.reflect.Field;
import java.lang.reflect.Method;
import java.lang.reflect.Modifier;
import java.util.Arrays;
import java.util.Set;
import java.util.TreeSet;

/** The class has the document's face and no more, and no call throws, whatever its arguments are. */
public final class FaceTests {
  private static int wrong = 0;

  private static final String[] METHODS = {
    "int write(char)", "int writePad()", "int cut(int)", "int replace(int,char)", "int addPattern()",
    "int removePattern(int)", "int setSlips(int)", "int type(char)", "int clearPad()", "int undo()", "int keep()",
    "int restore()", "int at(int)", "int pattern(int,int)", "int takes(int,int)", "int end(int,int,boolean,int)",
    "long column(int,int,int)", "int slips(int,int,int,int)", "double density(int)", "int densityBits(int)",
    "int count(int)"
  };
  private static final String[] CONSTANTS = {"BAD_VALUE", "FULL", "NONE", "NOT_POSSIBLE", "UNKNOWN"};

  private static void due(String what, Object got, Object want) {
    if (!got.equals(want)) {
      wrong++;
      System.out.println(what + " is " + got + ", due is " + want);
    }
  }

  private static String named(Class<?>[] types) {
    StringBuilder names = new StringBuilder();
    for (Class<?> type : types) names.append(names.length() == 0 ? "" : ",").append(type.getName());
    return names.toString();
  }

  private static void face() {
    Set<String> methods = new TreeSet<>();
    for (Method each : SlipSearch.class.getDeclaredMethods()) {
      if (Modifier.isPrivate(each.getModifiers()) || each.isSynthetic()) continue;
      due("the modifiers of " + each.getName(), Modifier.toString(each.getModifiers()), "public");
      methods.add(each.getReturnType().getName() + " " + each.getName() + "(" + named(each.getParameterTypes()) + ")");
    }
    due("the set of methods", methods, new TreeSet<>(Arrays.asList(METHODS)));
    Set<String> constants = new TreeSet<>();
    for (Field each : SlipSearch.class.getDeclaredFields()) {
      if (Modifier.isPrivate(each.getModifiers())) continue;
      due("the modifiers of " + each.getName(), Modifier.toString(each.getModifiers()), "public static final");
      due("the type of " + each.getName(), each.getType().getName(), "int");
      constants.add(each.getName());
    }
    due("the set of constants", constants, new TreeSet<>(Arrays.asList(CONSTANTS)));
    due("the modifiers of the class", Modifier.toString(SlipSearch.class.getModifiers()), "public final");
    Constructor<?>[] constructors = SlipSearch.class.getDeclaredConstructors();
    due("the number of constructors", constructors.length, 1);
    due("the constructor", Modifier.toString(constructors[0].getModifiers()) + " " + named(constructors[0].getParameterTypes()), "public ");
  }

  /** Private methods, those of the classes inside too, bear no name of the face. */
  private static void privateNames() {
    Set<String> names = new TreeSet<>();
    for (String each : METHODS) names.add(each.substring(each.indexOf(' ') + 1, each.indexOf('(')));
    for (Method each : SlipSearch.class.getDeclaredMethods()) {
      if (!Modifier.isPublic(each.getModifiers())) due(each.getName() + " in the face", names.contains(each.getName()), false);
    }
    for (Class<?> inside : SlipSearch.class.getDeclaredClasses()) {
      due(inside.getName() + " is static", Modifier.isStatic(inside.getModifiers()), true);
      for (Method each : inside.getDeclaredMethods()) {
        due(each.getName() + " in the face", names.contains(each.getName()), false);
      }
    }
  }

  private static SlipSearch[] states() {
    SlipSearch[] states = {new SlipSearch(), new SlipSearch(), new SlipSearch()};
    for (int state = 1; state < 3; state++) {
      SlipSearch x = states[state];
      for (int i = 0; i < 60; i++) x.type((char) ('a' + i % state));
      x.writePad();
      x.writePad();
      for (int i = 0; i < 4 * state; i++) x.addPattern();
      x.setSlips(4);
      x.keep();
    }
    return states;
  }

  private static void anyArguments() {
    int[] numbers = {Integer.MIN_VALUE, -121, -1, 0, 1, 5, 59, 60, 119, 120, 121, Integer.MAX_VALUE};
    for (int first : numbers) {
      for (int second : numbers) {
        for (SlipSearch x : states()) {
          x.write((char) first);
          x.at(first);
          x.pattern(first, second);
          x.takes(first, second);
          x.density(first);
          x.densityBits(first);
          x.count(first);
          for (int third : numbers) {
            x.end(first, second, true, third);
            x.end(first, second, false, third);
            x.column(first, second, third);
            x.slips(0, first, second, third);
            x.slips(first, second, third, 0);
          }
          x.setSlips(first);
          x.cut(second);
          x.replace(first, 'b');
          x.replace(first, (char) second);
          x.type((char) second);
          x.removePattern(first);
          x.undo();
          x.restore();
        }
      }
    }
  }

  public static void main(String[] args) {
    face();
    privateNames();
    anyArguments();
    System.out.println(wrong == 0 ? "the face is as due" : wrong + " faults of the face");
    if (wrong != 0) System.exit(1);
  }
}
