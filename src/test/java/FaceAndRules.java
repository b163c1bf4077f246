import java.io.IOException;
import java.lang.reflect.Array;
import java.lang.reflect.Constructor;
import java.lang.reflect.Field;
import java.lang.reflect.Method;
import java.lang.reflect.Modifier;
import java.nio.file.Files;
import java.nio.file.Path;
import java.util.ArrayList;
import java.util.Arrays;
import java.util.IdentityHashMap;
import java.util.List;
import java.util.Map;
import java.util.TreeSet;
import java.util.regex.Matcher;
import java.util.regex.Pattern;

/** The document's face, those rules of LANGUAGE.md that can be seen by reflection or in the text, and the room. */
public final class FaceAndRules {
  static int wrong = 0;

  static void must(boolean holds, String what) {
    if (!holds) { wrong++; System.out.println("not so: " + what); }
  }

  static String signature(Method m) { return m.getReturnType() + " " + m.getName() + m.getParameterCount(); }

  static void face() {
    TreeSet<String> due = new TreeSet<>();
    for (String s : "told1 end2 place2 letter2 challenge2 held2 name1 word2 say0 open1 go1 close1 speak0 again1 arrive1 lose1 twice1 forge5 tick0 drift1 write3 tear0 seed1 keep1 goBack1".split(" ")) due.add("int " + s);
    TreeSet<String> is = new TreeSet<>();
    TreeSet<String> names = new TreeSet<>();
    for (Method m : MovedWays.class.getDeclaredMethods()) {
      if (Modifier.isPrivate(m.getModifiers())) continue;
      must(Modifier.isPublic(m.getModifiers()) && !Modifier.isStatic(m.getModifiers()), m + " is public");
      for (Class<?> p : m.getParameterTypes()) must(p == int.class, m + " takes ints");
      is.add(signature(m));
      names.add(m.getName());
    }
    must(is.equals(due), "the public methods " + is);
    must(Modifier.isFinal(MovedWays.class.getModifiers()), "the class is final");
    Constructor<?>[] made = MovedWays.class.getDeclaredConstructors();
    must(made.length == 1 && made[0].getParameterCount() == 0 && Modifier.isPublic(made[0].getModifiers()), "one public constructor");
    TreeSet<String> constants = new TreeSet<>();
    for (Field f : MovedWays.class.getDeclaredFields()) if (!Modifier.isPrivate(f.getModifiers())) constants.add(f.getName());
    must(constants.equals(new TreeSet<>(List.of("NONE", "UNKNOWN", "OUTSIDE", "NOT", "FULL"))), "the public constants " + constants);
    for (Class<?> c : classes()) classRules(c, names);
    must(classes().size() <= 12, "at most twelve classes");
  }

  static List<Class<?>> classes() {
    List<Class<?>> all = new ArrayList<>(List.of(MovedWays.class));
    all.addAll(Arrays.asList(MovedWays.class.getDeclaredClasses()));
    return all;
  }

  static void classRules(Class<?> c, TreeSet<String> publicNames) {
    if (c != MovedWays.class) {
      must(Modifier.isStatic(c.getModifiers()) && !Modifier.isPublic(c.getModifiers()) && !Modifier.isProtected(c.getModifiers()), c + " is static, not public");
    }
    int fields = 0;
    for (Field f : c.getDeclaredFields()) {
      if (!Modifier.isStatic(f.getModifiers())) { fields++; continue; }
      must(Modifier.isFinal(f.getModifiers()), f + " is final");
    }
    must(fields <= 20, c + " has at most twenty fields");
    for (Method m : c.getDeclaredMethods()) {
      must(m.getParameterCount() <= 7, m + " takes at most seven");
      boolean isFace = c == MovedWays.class && Modifier.isPublic(m.getModifiers());
      must(isFace || !publicNames.contains(m.getName()), m + " bears no public name");
    }
  }

  static String withoutComments(String text) {
    return text.replaceAll("(?s)/\\*.*?\\*/", "").replaceAll("//[^\n]*", "");
  }

  static void text(String source) {
    String code = withoutComments(source);
    for (String word : "throw throws try catch synchronized assert import package lambda volatile native yield instanceof var float double HashMap Exact equals hashCode toString Random System.out nanoTime".split(" ")) {
      must(!Pattern.compile("\\b" + Pattern.quote(word) + "\\b").matcher(code).find() && !(word.equals("Exact") && code.contains(word)), "the text has no '" + word + "'");
    }
    must(!code.contains("->") && !code.contains("::"), "the text has no lambda and no method reference");
    Matcher library = Pattern.compile("\\b(Math|Long|Integer|System|Arrays)\\.(\\w+)").matcher(code);
    while (library.find()) must(List.of("max", "min", "bitCount", "arraycopy").contains(library.group(2)), "library call " + library.group());
    Matcher made = Pattern.compile("\\bnew (\\w+)").matcher(code);
    while (made.find()) must(List.of("Ways", "End", "Table", "NumberSet", "int", "long").contains(made.group(1)), "made: " + made.group());
    for (char c : source.toCharArray()) must(c < 128, "plain signs");
    methodsAreShort(source);
  }

  static void methodsAreShort(String source) {
    String[] lines = source.split("\n");
    int start = -1;
    String indent = "";
    for (int i = 0; i < lines.length; i++) {
      Matcher head = Pattern.compile("^( {4}| {8})\\S.*\\) \\{$").matcher(lines[i]);
      if (start < 0 && head.find() && !lines[i].trim().startsWith("if")) { start = i; indent = head.group(1); }
      if (start >= 0 && lines[i].equals(indent + "}")) {
        must(i - start < 60, "short: " + lines[start].trim());
        start = -1;
      }
    }
  }

  /** Objects and their fields and elements, from here on. */
  static int[] room(Object from) throws IllegalAccessException {
    Map<Object, Boolean> seen = new IdentityHashMap<>();
    List<Object> open = new ArrayList<>(List.of(from));
    seen.put(from, true);
    int cells = 0;
    for (int i = 0; i < open.size(); i++) {
      Object o = open.get(i);
      List<Object> parts = new ArrayList<>();
      if (o.getClass().isArray()) {
        cells += Array.getLength(o);
        if (o instanceof Object[] row) parts.addAll(Arrays.asList(row));
      } else {
        for (Field f : o.getClass().getDeclaredFields()) {
          if (Modifier.isStatic(f.getModifiers())) continue;
          cells++;
          f.setAccessible(true);
          if (!f.getType().isPrimitive()) parts.add(f.get(o));
        }
      }
      for (Object part : parts) if (part != null && seen.put(part, true) == null) open.add(part);
    }
    return new int[] {open.size(), cells};
  }

  /** Nothing is made but by the constructor and the first keep of each image: 512 new objects must fit in the room. */
  static void smallRoom() throws IllegalAccessException {
    MovedWays x = new MovedWays();
    int[] fresh = room(x);
    for (int i = 0; i < 150; i++) { x.drift(20); x.keep(i % 2); if (i % 7 == 0) x.goBack(0); x.write(0, 0, 0); }
    int[] used = room(x);
    System.out.println("room: new " + Arrays.toString(fresh) + ", with images " + Arrays.toString(used));
    must(used[0] * 512 < 600000 && used[1] * 512 < 7300000, "512 objects with images fit in the room");
  }

  public static void main(String[] args) throws IOException, IllegalAccessException {
    String path = System.getProperty("main");
    must(path != null, "-Dmain names the class's file");
    face();
    if (path != null) text(Files.readString(Path.of(path)));
    smallRoom();
    System.out.println(wrong == 0 ? "all rules hold" : wrong + " rules do not hold");
    if (wrong != 0) System.exit(1);
  }
}
