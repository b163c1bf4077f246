import java.lang.reflect.Array;
import java.lang.reflect.Constructor;
import java.lang.reflect.Field;
import java.lang.reflect.InvocationTargetException;
import java.lang.reflect.Method;
import java.lang.reflect.Modifier;
import java.util.ArrayList;
import java.util.Arrays;
import java.util.IdentityHashMap;
import java.util.List;
import java.util.Map;
import java.util.Random;
import java.util.TreeMap;
import java.util.TreeSet;

/** The document's face, as reflection sees it; that no call throws, whatever it is given; how much room an object takes. */
public final class FaceAndRoom {
  static final String METHODS = "told1 end2 place2 letter2 challenge2 held2 name1 word2 say0 open1 go1 close1 speak0 again1"
      + " arrive1 lose1 twice1 forge5 tick0 drift1 write3 tear0 seed1 keep1 goBack1";
  static final Map<String, Integer> CONSTANTS = Map.of("NONE", -1, "UNKNOWN", -1000000001, "OUTSIDE", -1000000002,
      "NOT", -1000000003, "FULL", -1000000004);
  static final int[] ODD = {Integer.MIN_VALUE, Integer.MIN_VALUE + 1, -1000000001, -65, -64, -2, -1, 5, 6, 19, 20, 21, 24, 39,
      40, 63, 64, 99, 100, 9999, 10000, 32767, 32768, 357913941, 715827882, 715827883, Integer.MAX_VALUE - 1, Integer.MAX_VALUE};

  static int wrong = 0;

  static void must(boolean holds, String what) {
    if (!holds) { wrong++; System.out.println("not so: " + what); }
  }

  // ---- the face

  static void methods() {
    TreeSet<String> is = new TreeSet<>();
    for (Method m : MovedWays.class.getDeclaredMethods()) {
      if (Modifier.isPrivate(m.getModifiers())) continue;
      must(Modifier.isPublic(m.getModifiers()) && !Modifier.isStatic(m.getModifiers()), m + " is public, of an object");
      must(m.getReturnType() == int.class, m + " answers an int");
      for (Class<?> p : m.getParameterTypes()) must(p == int.class, m + " takes ints");
      is.add(m.getName() + m.getParameterCount());
    }
    must(is.equals(new TreeSet<>(Arrays.asList(METHODS.split(" ")))), "the public methods " + is);
    must(Modifier.isPublic(MovedWays.class.getModifiers()) && Modifier.isFinal(MovedWays.class.getModifiers()), "the class is public and final");
    Constructor<?>[] made = MovedWays.class.getDeclaredConstructors();
    must(made.length == 1 && made[0].getParameterCount() == 0 && Modifier.isPublic(made[0].getModifiers()), "one public constructor");
  }

  static void constants() throws IllegalAccessException {
    Map<String, Integer> is = new TreeMap<>();
    for (Field f : MovedWays.class.getDeclaredFields()) {
      if (Modifier.isPrivate(f.getModifiers())) continue;
      int m = f.getModifiers();
      must(Modifier.isPublic(m) && Modifier.isStatic(m) && Modifier.isFinal(m) && f.getType() == int.class, f + " is a public constant");
      is.put(f.getName(), f.getInt(null));
    }
    must(is.equals(new TreeMap<>(CONSTANTS)), "the public constants " + is);
  }

  // ---- no call throws

  static int argument(Random drawn) {
    int by = drawn.nextInt(8);
    if (by == 0) return ODD[drawn.nextInt(ODD.length)];
    return by == 1 ? drawn.nextInt() : drawn.nextInt(by < 5 ? 3 : 24);
  }

  static void anyCalls(List<Method> all, int calls, Random drawn) throws IllegalAccessException {
    MovedWays x = new MovedWays();
    for (int i = 0; i < calls; i++) {
      Method m = all.get(drawn.nextInt(all.size()));
      Object[] with = new Object[m.getParameterCount()];
      for (int a = 0; a < with.length; a++) with[a] = argument(drawn);
      try {
        m.invoke(x, with);
      } catch (InvocationTargetException e) {
        must(false, m.getName() + Arrays.toString(with) + " threw " + e.getCause());
        return;
      }
    }
  }

  /** Rule 7 knows no 512th call: what is answered then is free, but nothing is thrown. */
  static void neverThrows() throws IllegalAccessException {
    List<Method> all = new ArrayList<>();
    for (Method m : MovedWays.class.getDeclaredMethods()) if (Modifier.isPublic(m.getModifiers())) all.add(m);
    all.sort((a, b) -> a.getName().compareTo(b.getName()));
    Random drawn = new Random(26);
    for (int i = 0; i < 300; i++) anyCalls(all, 512, drawn);
    anyCalls(all, 300000, drawn);
  }

  // ---- the room

  /** Objects and their fields and elements, from here on. */
  static int[] room(Object from) throws IllegalAccessException {
    Map<Object, Boolean> seen = new IdentityHashMap<>();
    List<Object> open = new ArrayList<>(List.of(from));
    seen.put(from, true);
    int cells = 0;
    for (int i = 0; i < open.size(); i++) {
      Object o = open.get(i);
      List<Object> parts = new ArrayList<>();
      if (o.getClass().isArray()) {
        cells += Array.getLength(o);
        if (o instanceof Object[] row) parts.addAll(Arrays.asList(row));
      } else {
        for (Field f : o.getClass().getDeclaredFields()) {
          if (Modifier.isStatic(f.getModifiers())) continue;
          cells++;
          f.setAccessible(true);
          if (!f.getType().isPrimitive()) parts.add(f.get(o));
        }
      }
      for (Object part : parts) if (part != null && seen.put(part, true) == null) open.add(part);
    }
    return new int[] {open.size(), cells};
  }

  /** Nothing is made but by the constructor and the first keep of each image: 512 new objects must fit in the room. */
  static void smallRoom() throws IllegalAccessException {
    MovedWays x = new MovedWays();
    int[] fresh = room(x);
    for (int i = 0; i < 150; i++) { x.drift(20); x.keep(i % 2); if (i % 7 == 0) x.goBack(0); x.write(0, 0, 0); }
    int[] used = room(x);
    System.out.println("room: new " + Arrays.toString(fresh) + ", with images " + Arrays.toString(used));
    must(used[0] * 512 < 600000 && used[1] * 512 < 7300000, "512 objects with images fit in the room");
  }

  public static void main(String[] args) throws IllegalAccessException {
    methods();
    constants();
    neverThrows();
    smallRoom();
    System.out.println(wrong == 0 ? "all is so" : wrong + " are not so");
    if (wrong != 0) System.exit(1);
  }
}
